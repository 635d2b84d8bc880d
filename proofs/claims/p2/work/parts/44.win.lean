/-! ===== windows of bytes: what a parser sees; white ===== -/
theorem w_up_up {m : w_M} {i k v u : Int} : w_up (w_up m i k v) i k u = w_up m i k u := by
  funext a b
  unfold w_up
  split <;> rfl
theorem w_up_id {m : w_M} {i k v : Int} (h : m i k = v) : w_up m i k v = m := by
  funext a b
  unfold w_up
  split
  · rename_i q; rw [q.1, q.2, h]
  · rfl
/-- a window: L bytes, each 0 .. 255; else -1 -/
def v_ok (W : Int → Int) (L : Int) : Prop := 0 ≤ L ∧ (∀ i, 0 ≤ i → i < L → 0 ≤ W i ∧ W i < 256) ∧ ∀ i, (i < 0 ∨ L ≤ i) → W i = -1
/-- the class's parser P sees it -/
def v_c (m : w_M) (P : Int) (W : Int → Int) (L : Int) : Prop := v_ok W L ∧ w_isP P ∧ 0 ≤ m P 2 ∧ w_isA 1 (m P 2) ∧ w_isR (m P 2) ∧ 0 ≤ m P 3 ∧ m P 5 = m P 3 + L ∧ m P 5 ≤ w_ln (m P 2) ∧ w_ln (m P 2) ≤ 200000 ∧ ∀ i, 0 ≤ i → i < L → m (m P 2) (m P 3 + i) % 256 = W i
/-- the reference sees it -/
def v_m (n : w_M) (W : Int → Int) (L : Int) : Prop := v_ok W L ∧ 0 ≤ n 428 18 ∧ w_isA 1 (n 428 18) ∧ 0 ≤ n 428 19 ∧ n 428 20 = L ∧ n 428 19 + L ≤ w_ln (n 428 18) ∧ w_ln (n 428 18) ≤ 200000 ∧ ∀ i, 0 ≤ i → i < L → n (n 428 18) (n 428 19 + i) % 256 = W i
theorem w_isP_na {P a : Int} (h : w_isP P) (ha : w_isA 1 a) : P ≠ a := by
  intro e
  subst e
  obtain ⟨n, hn⟩ := ha
  rcases h with rfl | rfl
  · rw [s0_376] at hn; cases hn
  · rw [s0_405] at hn; cases hn
theorem v_c.up {m : w_M} {P : Int} {W : Int → Int} {L k v : Int} (h : v_c m P W L) (hk : k ≠ 2 ∧ k ≠ 3 ∧ k ≠ 5) : v_c (w_up m P k v) P W L := by
  obtain ⟨h1, h2, h3, h4, h4b, h5, h6, h7, h8, h9⟩ := h
  have e2 : w_up m P k v P 2 = m P 2 := w_up_nb (by omega)
  have e3 : w_up m P k v P 3 = m P 3 := w_up_nb (by omega)
  have e5 : w_up m P k v P 5 = m P 5 := w_up_nb (by omega)
  refine ⟨h1, h2, ?_, ?_, ?_, ?_, ?_, ?_, ?_, fun i q1 q2 => ?_⟩
  · rw [e2]; exact h3
  · rw [e2]; exact h4
  · rw [e2]; exact h4b
  · rw [e3]; exact h5
  · rw [e3, e5]; exact h6
  · rw [e2, e5]; exact h7
  · rw [e2]; exact h8
  · rw [e2, e3, w_up_ne (fun e => w_isP_na h2 h4 e.symm)]; exact h9 i q1 q2
theorem v_m.up {n : w_M} {W : Int → Int} {L k v : Int} (h : v_m n W L) (hk : k ≠ 18 ∧ k ≠ 19 ∧ k ≠ 20) : v_m (w_up n 428 k v) W L := by
  obtain ⟨h1, h2, h3, h4, h5, h6, h7, h8⟩ := h
  have hne : n 428 18 ≠ 428 := by
    intro e
    rw [e] at h3
    obtain ⟨q, hq⟩ := h3
    rw [s0_428] at hq
    cases hq
  have e1 : w_up n 428 k v 428 18 = n 428 18 := w_up_nb (by omega)
  have e2 : w_up n 428 k v 428 19 = n 428 19 := w_up_nb (by omega)
  have e3 : w_up n 428 k v 428 20 = n 428 20 := w_up_nb (by omega)
  refine ⟨h1, ?_, ?_, ?_, ?_, ?_, ?_, fun i q1 q2 => ?_⟩
  · rw [e1]; exact h2
  · rw [e1]; exact h3
  · rw [e2]; exact h4
  · rw [e3]; exact h5
  · rw [e1, e2]; exact h6
  · rw [e1]; exact h7
  · rw [e1, e2, w_up_ne hne]; exact h8 i q1 q2
section VA
variable {d : Nat} {m n : w_M} {P L p k : Int} {W : Int → Int} {Q : Int → w_M → Prop}
theorem sp_ps_at (hw : v_c m P W L) {i : Int} (hp : p = m P 3 + i) (h : Q (W i) m) : xc_ps_at (d + 1) P p m Q := by
  obtain ⟨⟨v1, v2, v3⟩, h2, h3, h4, h4b, h5, h6, h7, h8, h9⟩ := hw
  subst hp
  apply xr_ps_at h2
  by_cases q1 : i < 0
  · rw [if_pos (by omega), ← v3 i (Or.inl q1)]; exact h
  · rw [if_neg (by omega)]
    by_cases q2 : i < L
    · rw [if_pos (by omega)]
      refine ⟨h3, h4b, ?_⟩
      rw [if_pos (by omega)]
      refine ⟨h3, h4, ⟨by omega, by omega⟩, ?_⟩
      rw [h9 i (by omega) q2]
      exact h
    · rw [if_neg (by omega), ← v3 i (Or.inr (by omega))]; exact h
theorem sp_r_peek (hw : v_m n W L) (hp : n 428 21 = p) (h0 : 0 ≤ p) (h1 : p ≤ 200000) (hk : 0 ≤ k) (hk2 : k ≤ 200000) (h : Q (W (p + k)) n) : xc_m_peek (d + 1) k n Q := by
  obtain ⟨⟨v1, v2, v3⟩, h2, h3, h4, h5, h6, h7, h8⟩ := hw
  apply xr_m_peek
  rw [hp, h5, w_32_id (x := p + k) (by omega) (by omega)]
  by_cases q : p + k < L
  · rw [if_pos q, w_32_id (x := n 428 19 + p) (by omega) (by omega), w_32_id (by omega) (by omega), show n 428 19 + p + k = n 428 19 + (p + k) by omega, h8 _ (by omega) q]
    exact ⟨h2, h3, ⟨by omega, by omega⟩, h⟩
  · rw [if_neg q, ← v3 (p + k) (Or.inr (by omega))]
    exact h
end VA
-- kinds of bytes
abbrev b_w (c : Int) : Prop := c = 0 ∨ c = 9 ∨ c = 10 ∨ c = 12 ∨ c = 13 ∨ c = 32
abbrev b_del (c : Int) : Prop := c = 40 ∨ c = 41 ∨ c = 60 ∨ c = 62 ∨ c = 91 ∨ c = 93 ∨ c = 123 ∨ c = 125 ∨ c = 47 ∨ c = 37
abbrev b_reg (c : Int) : Prop := 0 ≤ c ∧ ¬ b_w c ∧ ¬ b_del c
abbrev b_dig (c : Int) : Prop := 48 ≤ c ∧ c ≤ 57
section VB
variable {d : Nat} {m n : w_M} {c : Int} {Q : Int → w_M → Prop}
theorem sp_c_isWhite (h : Q (if b_w c then 1 else 0) m) : xc_ps_isWhite (d + 1) c m Q := by
  refine sp_ps_isWhite ?_
  have e : f_ps_isWhite m c = if b_w c then 1 else 0 := by
    unfold f_ps_isWhite
    by_cases q : b_w c
    · rw [if_pos q]; rcases q with rfl | rfl | rfl | rfl | rfl | rfl <;> rfl
    · rw [if_neg q]
      rw [if_neg (by omega), if_neg (by omega), if_neg (by omega), if_neg (by omega), if_neg (by omega), if_neg (by omega)]
  rw [e]
  exact h
theorem sp_r_isBlank (h : Q (if b_w c then 1 else 0) n) : xc_m_isBlank (d + 1) c n Q := by
  refine sp_m_isBlank ?_
  have e : f_m_isBlank n c = if b_w c then 1 else 0 := by
    unfold f_m_isBlank
    by_cases q : b_w c
    · rw [if_pos q]; rcases q with rfl | rfl | rfl | rfl | rfl | rfl <;> rfl
    · rw [if_neg q]
      rw [if_neg (by omega), if_neg (by omega), if_neg (by omega), if_neg (by omega), if_neg (by omega), if_neg (by omega)]
  rw [e]
  exact h
theorem f_blank_v : f_m_isBlank n c = if b_w c then 1 else 0 := by
  unfold f_m_isBlank
  by_cases q : b_w c
  · rw [if_pos q]; rcases q with rfl | rfl | rfl | rfl | rfl | rfl <;> rfl
  · rw [if_neg q]
    rw [if_neg (by omega), if_neg (by omega), if_neg (by omega), if_neg (by omega), if_neg (by omega), if_neg (by omega)]
theorem f_del_v : f_m_isDelimiter n c = if b_del c then 1 else 0 := by
  unfold f_m_isDelimiter
  by_cases q : b_del c
  · rw [if_pos q]; rcases q with rfl | rfl | rfl | rfl | rfl | rfl | rfl | rfl | rfl | rfl <;> rfl
  · rw [if_neg q]
    rw [if_neg (by omega), if_neg (by omega), if_neg (by omega), if_neg (by omega), if_neg (by omega), if_neg (by omega), if_neg (by omega), if_neg (by omega), if_neg (by omega), if_neg (by omega)]
theorem sp_r_isRegular (h : Q (if b_reg c then 1 else 0) n) : xc_m_isRegular (d + 2) c n Q := by
  refine sp_m_isRegular ?_
  have e : f_m_isRegular n c = if b_reg c then 1 else 0 := by
    unfold f_m_isRegular
    rw [f_blank_v, f_del_v]
    by_cases q1 : c < 0
    · rw [if_pos q1, if_neg (by omega)]
    · rw [if_neg q1]
      by_cases q2 : b_w c
      · rw [if_pos q2, if_neg (by decide), if_neg (fun q => q.2.1 q2)]
      · rw [if_neg q2, if_pos rfl]
        by_cases q3 : b_del c
        · rw [if_pos q3, if_neg (by decide), if_neg (fun q => q.2.2 q3)]
        · rw [if_neg q3, if_pos rfl, if_pos ⟨by omega, q2, q3⟩]
  rw [e]
  exact h
theorem sp_c_isRegular (hc : -1 ≤ c) (h : Q (if b_reg c then 1 else 0) m) : xc_ps_isRegular (d + 1) c m Q := by
  apply xr_ps_isRegular
  by_cases q : b_reg c
  · rw [if_pos q] at h
    obtain ⟨q1, q2, q3⟩ := q
    rw [if_neg (by omega), if_neg (by omega), if_neg (by omega), if_neg (by omega), if_neg (by omega), if_neg (by omega), if_neg (by omega), if_neg (by omega), if_neg (by omega), if_neg (by omega), if_neg (by omega), if_neg (by omega), if_neg (by omega), if_neg (by omega), if_neg (by omega), if_neg (by omega), if_neg (by omega)]
    exact h
  · rw [if_neg q] at h
    have hq : c = -1 ∨ b_w c ∨ b_del c := by omega
    rcases hq with rfl | (rfl | rfl | rfl | rfl | rfl | rfl) | (rfl | rfl | rfl | rfl | rfl | rfl | rfl | rfl | rfl | rfl)
    all_goals exact h
end VB
-- behind blanks, behind white
def k_b (W : Int → Int) : Nat → Int → Int
  | 0, p => p
  | k + 1, p => if b_w (W p) then k_b W k (p + 1) else p
/-- remark or not -/
def k_w (W : Int → Int) : Nat → Bool → Int → Int
  | 0, _, p => p
  | k + 1, r, p => if W p = 10 ∨ W p = 13 then k_w W k false (p + 1) else if W p = 37 then k_w W k true (p + 1) else if r = false ∧ ¬ b_w (W p) then p else k_w W k r (p + 1)
theorem k_b_r (W : Int → Int) : ∀ (k : Nat) (p : Int), p ≤ k_b W k p ∧ k_b W k p ≤ p + k := by
  intro k
  induction k with
  | zero => intro p; show p ≤ p ∧ p ≤ p + ((0 : Nat) : Int); omega
  | succ k ih =>
    intro p
    have := ih (p + 1)
    show p ≤ (if b_w (W p) then k_b W k (p + 1) else p) ∧ (if b_w (W p) then k_b W k (p + 1) else p) ≤ p + ((k + 1 : Nat) : Int)
    split <;> omega
theorem k_w_r (W : Int → Int) : ∀ (k : Nat) (r : Bool) (p : Int), p ≤ k_w W k r p ∧ k_w W k r p ≤ p + k := by
  intro k
  induction k with
  | zero => intro r p; show p ≤ p ∧ p ≤ p + ((0 : Nat) : Int); omega
  | succ k ih =>
    intro r p
    have h1 := ih false (p + 1)
    have h2 := ih true (p + 1)
    have h3 := ih r (p + 1)
    unfold k_w
    split
    · omega
    · split
      · omega
      · split <;> omega
section VC
variable {d : Nat} {m n : w_M} {P L p : Int} {W : Int → Int} {Q : Int → w_M → Prop}
theorem sp_skipBlanks_l (hw : v_c m P W L) : ∀ (k : Nat) (p : Int), 0 ≤ p → p + k = L → Q 0 (w_up m P 4 (m P 3 + k_b W k p)) → xp_ps_skipBlanks_0 (d + 1) P (w_up m P 4 (m P 3 + p)) Q := by
  intro k
  have hP := hw.2.1
  have hv := hw
  obtain ⟨⟨v1, v2, v3⟩, h2, h3, h4, h4b, h5, h6, h7, h8, h9⟩ := hw
  induction k with
  | zero =>
    intro p h0 hk h
    apply xr_ps_skipBlanks_0 hP
    rw [w_up_eq, w_up_nb (by decide), if_neg (by omega)]
    exact h
  | succ k ih =>
    intro p h0 hk h
    apply xr_ps_skipBlanks_0 hP
    rw [w_up_eq, w_up_nb (by decide), if_pos (by omega)]
    refine sp_ps_at (hv.up (k := 4) (v := m P 3 + p) (by decide)) (i := p) (by rw [w_up_nb (by decide)]) ?_
    refine sp_c_isWhite ?_
    by_cases q : b_w (W p)
    · rw [if_pos q, if_neg (by decide), w_up_eq, w_up_up, w_32_id (by omega) (by omega), show m P 3 + p + 1 = m P 3 + (p + 1) by omega]
      have e : k_b W (k + 1) p = k_b W k (p + 1) := if_pos q
      rw [e] at h
      exact ih (p + 1) (by omega) (by omega) h
    · rw [if_neg q, if_pos rfl]
      have e : k_b W (k + 1) p = p := if_neg q
      rw [e] at h
      exact h
theorem sp_skipBlanks (hw : v_c m P W L) (hp : m P 4 = m P 3 + p) (h0 : 0 ≤ p) (h1 : p ≤ L) (h : Q 0 (w_up m P 4 (m P 3 + k_b W (L - p).toNat p))) : xc_ps_skipBlanks (d + 2) P m Q := by
  apply xr_ps_skipBlanks hw.2.1
  have := sp_skipBlanks_l (d := d) hw (L - p).toNat p h0 (by omega) h
  rw [w_up_id hp] at this
  exact this
theorem sp_blanks_l (hw : v_m n W L) (hL : L ≤ 200000) : ∀ (k : Nat) (p : Int), 0 ≤ p → p + k = L → Q 0 (w_up n 428 21 (k_b W k p)) → xp_m_blanks_0 (d + 1) (w_up n 428 21 p) Q := by
  intro k
  have hv := hw
  obtain ⟨⟨v1, v2, v3⟩, h2, h3, h4, h5, h6, h7, h8⟩ := hw
  induction k with
  | zero =>
    intro p h0 hk h
    apply xr_m_blanks_0
    refine sp_r_peek (hv.up (k := 21) (v := p) (by decide)) w_up_eq h0 (by omega) (by decide) (by decide) ?_
    refine sp_r_isBlank ?_
    rw [v3 (p + 0) (Or.inr (by omega)), if_pos (show (if b_w (-1) then (1 : Int) else 0) = 0 by decide)]
    exact h
  | succ k ih =>
    intro p h0 hk h
    apply xr_m_blanks_0
    refine sp_r_peek (hv.up (k := 21) (v := p) (by decide)) w_up_eq h0 (by omega) (by decide) (by decide) ?_
    refine sp_r_isBlank ?_
    rw [Int.add_zero]
    by_cases q : b_w (W p)
    · rw [if_pos q, if_neg (by decide), w_up_eq, w_up_up, w_32_id (by omega) (by omega)]
      have e : k_b W (k + 1) p = k_b W k (p + 1) := if_pos q
      rw [e] at h
      exact ih (p + 1) (by omega) (by omega) h
    · rw [if_neg q, if_pos rfl]
      have e : k_b W (k + 1) p = p := if_neg q
      rw [e] at h
      exact h
theorem sp_blanks (hw : v_m n W L) (hL : L ≤ 200000) (hp : n 428 21 = p) (h0 : 0 ≤ p) (h1 : p ≤ L) (h : Q 0 (w_up n 428 21 (k_b W (L - p).toNat p))) : xc_m_blanks (d + 2) n Q := by
  apply xr_m_blanks
  have := sp_blanks_l (d := d) hw hL (L - p).toNat p h0 (by omega) h
  rw [w_up_id hp] at this
  exact this
theorem sp_skipWhite_l (hw : v_c m P W L) : ∀ (k : Nat) (r : Bool) (p : Int), 0 ≤ p → p + k = L → Q 0 (w_up m P 4 (m P 3 + k_w W k r p)) → xp_ps_skipWhite_2 (d + 1) P (if r then 1 else 0) (w_up m P 4 (m P 3 + p)) Q := by
  intro k
  have hP := hw.2.1
  have hv := hw
  obtain ⟨⟨v1, v2, v3⟩, h2, h3, h4, h4b, h5, h6, h7, h8, h9⟩ := hw
  induction k with
  | zero =>
    intro r p h0 hk h
    apply xr_ps_skipWhite_2 hP
    rw [w_up_eq, w_up_nb (by decide), if_neg (by omega)]
    exact h
  | succ k ih =>
    intro r p h0 hk h
    apply xr_ps_skipWhite_2 hP
    rw [w_up_eq, w_up_nb (by decide), if_pos (by omega)]
    refine sp_ps_at (hv.up (k := 4) (v := m P 3 + p) (by decide)) (i := p) (by rw [w_up_nb (by decide)]) ?_
    simp only [w_up_eq, w_up_up]
    rw [w_32_id (by omega) (by omega), show m P 3 + p + 1 = m P 3 + (p + 1) by omega]
    have e : k_w W (k + 1) r p = if W p = 10 ∨ W p = 13 then k_w W k false (p + 1) else if W p = 37 then k_w W k true (p + 1) else if r = false ∧ ¬ b_w (W p) then p else k_w W k r (p + 1) := rfl
    rw [e] at h
    by_cases q1 : W p = 10
    · rw [if_pos q1]
      rw [if_pos (Or.inl q1)] at h
      exact ih false (p + 1) (by omega) (by omega) h
    · rw [if_neg q1]
      by_cases q2 : W p = 13
      · rw [if_pos q2]
        rw [if_pos (Or.inr q2)] at h
        exact ih false (p + 1) (by omega) (by omega) h
      · rw [if_neg q2]
        rw [if_neg (by omega)] at h
        by_cases q3 : W p = 37
        · rw [if_pos q3]
          rw [if_pos q3] at h
          exact ih true (p + 1) (by omega) (by omega) h
        · rw [if_neg q3]
          rw [if_neg q3] at h
          cases r with
          | true =>
            rw [if_neg (by simp)] at h
            rw [if_neg (show ¬ ((if true = true then (1 : Int) else 0) = 0) by decide)]
            exact ih true (p + 1) (by omega) (by omega) h
          | false =>
            rw [if_pos (show ((if false = true then (1 : Int) else 0) = 0) by decide)]
            refine sp_c_isWhite ?_
            by_cases q4 : b_w (W p)
            · rw [if_pos q4, if_neg (by decide), w_up_eq, w_up_up, w_32_id (by omega) (by omega), show m P 3 + p + 1 = m P 3 + (p + 1) by omega]
              rw [if_neg (fun z => z.2 q4)] at h
              exact ih false (p + 1) (by omega) (by omega) h
            · rw [if_neg q4, if_pos rfl]
              rw [if_pos ⟨rfl, q4⟩] at h
              exact h
theorem sp_skipWhite (hw : v_c m P W L) (hp : m P 4 = m P 3 + p) (h0 : 0 ≤ p) (h1 : p ≤ L) (h : Q 0 (w_up m P 4 (m P 3 + k_w W (L - p).toNat false p))) : xc_ps_skipWhite (d + 2) P m Q := by
  apply xr_ps_skipWhite hw.2.1
  have := sp_skipWhite_l (d := d) hw (L - p).toNat false p h0 (by omega) h
  rw [w_up_id hp] at this
  exact this
/-- once a remark has begun, up to its end -/
def k_r (W : Int → Int) : Nat → Int → Int
  | 0, p => p
  | k + 1, p => if W p = 10 ∨ W p = 13 then p else k_r W k (p + 1)
theorem k_w_b (W : Int → Int) : ∀ (k : Nat) (p : Int), ∃ j : Nat, j ≤ k ∧ k_b W k p = p + j ∧ k_w W k false p = k_w W (k - j) false (p + j) ∧ (j < k → ¬ b_w (W (p + j))) := by
  intro k
  induction k with
  | zero => intro p; exact ⟨0, Nat.le_refl _, by show p = p + ((0 : Nat) : Int); omega, by rw [show p + ((0 : Nat) : Int) = p by omega], fun h => by omega⟩
  | succ k ih =>
    intro p
    by_cases q : b_w (W p)
    · obtain ⟨j, h1, h2, h3, h4⟩ := ih (p + 1)
      refine ⟨j + 1, by omega, ?_, ?_, fun h => ?_⟩
      · have e : k_b W (k + 1) p = k_b W k (p + 1) := if_pos q
        rw [e, h2]; omega
      · have e : k_w W (k + 1) false p = k_w W k false (p + 1) := by
          show (if W p = 10 ∨ W p = 13 then k_w W k false (p + 1) else if W p = 37 then k_w W k true (p + 1) else if false = false ∧ ¬ b_w (W p) then p else k_w W k false (p + 1)) = _
          by_cases q1 : W p = 10 ∨ W p = 13
          · rw [if_pos q1]
          · rw [if_neg q1, if_neg (by omega), if_neg (fun z => z.2 q)]
        rw [e, h3, show k + 1 - (j + 1) = k - j by omega, show p + ((j + 1 : Nat) : Int) = p + 1 + j by omega]
      · rw [show p + ((j + 1 : Nat) : Int) = p + 1 + j by omega]
        exact h4 (by omega)
    · refine ⟨0, Nat.zero_le _, ?_, ?_, fun h => ?_⟩
      · have e : k_b W (k + 1) p = p := if_neg q
        rw [e]; omega
      · rw [show p + ((0 : Nat) : Int) = p by omega]; rfl
      · rw [show p + ((0 : Nat) : Int) = p by omega]; exact q
end VC
