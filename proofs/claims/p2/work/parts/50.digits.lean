/-! ===== rows of digits ===== -/
def t_dl (W : Int → Int) : Nat → Int → Nat
  | 0, _ => 0
  | k + 1, p => if b_dig (W p) then t_dl W k (p + 1) + 1 else 0
def t_dn (W : Int → Int) (p : Int) : Nat → Int
  | 0 => 0
  | j + 1 => t_dn W p j * 10 + (W (p + j) - 48)
theorem t_dl_le (W : Int → Int) : ∀ (k : Nat) (p : Int), t_dl W k p ≤ k := by
  intro k
  induction k with
  | zero => intro p; exact Nat.le_refl _
  | succ k ih =>
    intro p
    have := ih (p + 1)
    show (if b_dig (W p) then t_dl W k (p + 1) + 1 else 0) ≤ k + 1
    split <;> omega
theorem t_dl_dig (W : Int → Int) : ∀ (k : Nat) (p : Int) (i : Nat), i < t_dl W k p → b_dig (W (p + i)) := by
  intro k
  induction k with
  | zero => intro p i hi; exact absurd hi (Nat.not_lt_zero i)
  | succ k ih =>
    intro p i hi
    have e : t_dl W (k + 1) p = if b_dig (W p) then t_dl W k (p + 1) + 1 else 0 := rfl
    by_cases q : b_dig (W p)
    · rw [e, if_pos q] at hi
      cases i with
      | zero => rw [show p + ((0 : Nat) : Int) = p by omega]; exact q
      | succ i =>
        rw [show p + ((i + 1 : Nat) : Int) = p + 1 + i by omega]
        exact ih (p + 1) i (by omega)
    · rw [e, if_neg q] at hi
      exact absurd hi (Nat.not_lt_zero i)
theorem t_dl_end (W : Int → Int) : ∀ (k : Nat) (p : Int), t_dl W k p < k → ¬ b_dig (W (p + t_dl W k p)) := by
  intro k
  induction k with
  | zero => intro p hi; exact absurd hi (Nat.not_lt_zero _)
  | succ k ih =>
    intro p hi
    have e : t_dl W (k + 1) p = if b_dig (W p) then t_dl W k (p + 1) + 1 else 0 := rfl
    by_cases q : b_dig (W p)
    · rw [e, if_pos q] at hi ⊢
      have := ih (p + 1) (by omega)
      rw [show p + ((t_dl W k (p + 1) + 1 : Nat) : Int) = p + 1 + (t_dl W k (p + 1) : Int) by omega]
      exact this
    · rw [e, if_neg q, show p + ((0 : Nat) : Int) = p by omega]
      exact q
theorem t_dn_pos {W : Int → Int} {p : Int} : ∀ j : Nat, (∀ i : Nat, i < j → b_dig (W (p + i))) → 0 ≤ t_dn W p j := by
  intro j
  induction j with
  | zero => intro _; exact Int.le_refl 0
  | succ j ih =>
    intro h
    have h1 := ih (fun i hi => h i (by omega))
    have h2 := h j (by omega)
    show 0 ≤ t_dn W p j * 10 + (W (p + j) - 48)
    omega
theorem t_dn_lt {W : Int → Int} {p : Int} : ∀ j : Nat, (∀ i : Nat, i < j → b_dig (W (p + i))) → t_dn W p j < 10 ^ j := by
  intro j
  induction j with
  | zero => intro _; show (0 : Int) < 10 ^ 0; decide
  | succ j ih =>
    intro h
    have h1 := ih (fun i hi => h i (by omega))
    have h2 := h j (by omega)
    show t_dn W p j * 10 + (W (p + j) - 48) < 10 ^ (j + 1)
    rw [Int.pow_succ]
    omega
theorem t_ten : ∀ j : Nat, j ≤ 15 → (1 : Int) ≤ 10 ^ j ∧ (10 : Int) ^ j ≤ 1000000000000000 := by decide +kernel
theorem t_min_step {T c : Int} (hT : 0 ≤ T) (h1 : 48 ≤ c) (h2 : c ≤ 57) : min (w_64 (w_64 (min T 1099511627776 * 10) + w_32 (c - 48))) 1099511627776 = min (T * 10 + (c - 48)) 1099511627776 := by
  rw [w_32_id (x := c - 48) (by omega) (by omega)]
  rcases Int.le_total T 1099511627776 with z | z
  · rw [Int.min_eq_left z, w_64_id (x := T * 10) (by omega) (by omega), w_64_id (by omega) (by omega)]
  · rw [Int.min_eq_right z, w_64_id (x := 1099511627776 * 10) (by omega) (by omega), w_64_id (by omega) (by omega), Int.min_eq_right (by omega), Int.min_eq_right (by omega)]
section TD
variable {d : Nat} {m m' n : w_M} {P L p : Int} {W : Int → Int} {Q : Int → w_M → Prop}
theorem t_ends (hv : v_ok W L) {x : Int} (h : L ≤ x) : ¬ b_dig (W x) := by
  intro z
  have := hv.2.2 x (Or.inr h)
  have := z.1
  omega
theorem t_ends_r (hv : v_ok W L) {x : Int} (h : L ≤ x) : ¬ b_reg (W x) := by
  intro z
  have := hv.2.2 x (Or.inr h)
  have := z.1
  omega
theorem sp_digits_20 (hw : v_c m P W L) (h0 : 0 ≤ p) (hQ : Q (min (t_dn W p (t_dl W (L - p).toNat p)) 1099511627776) (w_up m P 4 (m P 3 + (p + t_dl W (L - p).toNat p)))) :
    ∀ (q j : Nat), p + j + q = L → t_dl W (L - p).toNat p = j + t_dl W q (p + j) → xp_ps_digits_20 (d + 1) P (min (t_dn W p j) 1099511627776) (w_up m P 4 (m P 3 + (p + j))) Q := by
  intro q
  have hP := hw.2.1
  have hb : 0 ≤ m P 3 ∧ m P 5 = m P 3 + L ∧ m P 5 ≤ 200000 := by
    obtain ⟨⟨v1, v2, v3⟩, h2, h3, h4, h4b, h5, h6, h7, h8, h9⟩ := hw
    omega
  induction q with
  | zero =>
    intro j hj hl
    have hl : t_dl W (L - p).toNat p = j := hl
    rw [hl] at hQ
    apply xr_ps_digits_20 hP
    rw [w_up_eq, w_up_nb (by decide), if_neg (by omega)]
    exact hQ
  | succ q ih =>
    intro j hj hl
    have el : t_dl W (q + 1) (p + j) = if b_dig (W (p + j)) then t_dl W q (p + j + 1) + 1 else 0 := rfl
    have hall : ∀ i : Nat, i < j → b_dig (W (p + i)) := fun i hi => t_dl_dig W (L - p).toNat p i (by omega)
    have hpos := t_dn_pos j hall
    apply xr_ps_digits_20 hP
    rw [w_up_eq, w_up_nb (by decide), if_pos (by omega)]
    refine sp_ps_at (hw.up (k := 4) (v := m P 3 + (p + j)) (by decide)) (i := p + j) (by rw [w_up_nb (by decide)]) ?_
    refine sp_c_isDigit ?_
    by_cases e : b_dig (W (p + j))
    · rw [el, if_pos e] at hl
      rw [if_pos e, if_neg (by decide), w_up_eq]
      refine sp_ps_at (hw.up (k := 4) (v := m P 3 + (p + j)) (by decide)) (i := p + j) (by rw [w_up_nb (by decide)]) ?_
      rw [w_up_eq, w_up_up, w_32_id (x := m P 3 + (p + j) + 1) (by omega) (by omega), show m P 3 + (p + (j : Int)) + 1 = m P 3 + (p + ((j + 1 : Nat) : Int)) by omega, t_min_step hpos e.1 e.2]
      exact ih (j + 1) (by omega) (by rw [hl, show p + ((j + 1 : Nat) : Int) = p + j + 1 by omega]; omega)
    · rw [el, if_neg e] at hl
      have hl : t_dl W (L - p).toNat p = j := hl
      rw [hl] at hQ
      rw [if_neg e, if_pos rfl]
      exact hQ
theorem sp_digits (hw : v_c m P W L) (hp : m P 4 = m P 3 + p) (h0 : 0 ≤ p) (h1 : p ≤ L) (hN : t_dl W (L - p).toNat p = 0 → Q (-1) m) (hQ : 0 < t_dl W (L - p).toNat p → Q (min (t_dn W p (t_dl W (L - p).toNat p)) 1099511627776) (w_up m P 4 (m P 3 + (p + t_dl W (L - p).toNat p)))) : xc_ps_digits (d + 2) P m Q := by
  apply xr_ps_digits hw.2.1
  refine sp_ps_at hw hp ?_
  refine sp_c_isDigit ?_
  have he := hw.1
  by_cases q : b_dig (W p)
  · rw [if_pos q, if_neg (by decide)]
    have hpL : p < L := by
      rcases Int.lt_or_le p L with z | z
      · exact z
      · exact absurd q (t_ends he z)
    have hpos : 0 < t_dl W (L - p).toNat p := by
      obtain ⟨i, hi⟩ : ∃ i, (L - p).toNat = i + 1 := ⟨(L - p).toNat - 1, by omega⟩
      rw [hi]
      show 0 < (if b_dig (W p) then t_dl W i (p + 1) + 1 else 0)
      rw [if_pos q]
      omega
    have key := sp_digits_20 (d := d) hw h0 (hQ hpos) (L - p).toNat 0 (by omega) (by rw [show p + ((0 : Nat) : Int) = p by omega, Nat.zero_add])
    rw [show p + ((0 : Nat) : Int) = p by omega, w_up_id hp] at key
    exact key
  · rw [if_neg q, if_pos rfl]
    refine hN ?_
    cases hk : (L - p).toNat with
    | zero => rfl
    | succ i => exact if_neg q
/-- a row of digits, and of nothing else, stands there -/
def t_rdg (W : Int → Int) (L p : Int) : Prop := 0 < t_dl W (L - p).toNat p ∧ ¬ b_reg (W (p + t_dl W (L - p).toNat p))
theorem t_dig_reg {c : Int} (h : b_dig c) : b_reg c := by
  obtain ⟨h1, h2⟩ := h
  exact ⟨by omega, by omega, by omega⟩
theorem sp_rowOfDigits (h : c_st m P W L p) (h1 : t_rdg W L p → c_st (w_up m P 4 (m P 3 + (p + t_dl W (L - p).toNat p))) P W L (p + t_dl W (L - p).toNat p) → Q (min (t_dn W p (t_dl W (L - p).toNat p)) 1099511627776) (w_up m P 4 (m P 3 + (p + t_dl W (L - p).toNat p)))) (h0 : ¬ t_rdg W L p → Q (-1) m) : xc_ps_rowOfDigits (d + 3) P m Q := by
  have hh := h
  obtain ⟨k1, k2, k3, k4, k5⟩ := h
  have hle := t_dl_le W (L - p).toNat p
  have hge : ∀ x, -1 ≤ W x := by
    intro x
    have hv := k1.1
    by_cases z : 0 ≤ x ∧ x < L
    · have := (hv.2.1 x z.1 z.2).1; omega
    · have := hv.2.2 x (by omega); omega
  apply xr_ps_rowOfDigits k1.2.1
  refine sp_digits k1 k2 k3 k4 (fun q => ?_) (fun q => ?_)
  · refine sp_ps_at k1 k2 ?_
    refine sp_c_isRegular (hge p) ?_
    have hn : ¬ t_rdg W L p := fun z => by have := z.1; omega
    by_cases e : b_reg (W p)
    · rw [if_pos e, if_neg (by decide), w_up_id rfl]
      exact h0 hn
    · rw [if_neg e, if_pos rfl]
      exact h0 hn
  · refine sp_ps_at (k1.up (k := 4) (by decide)) (i := p + t_dl W (L - p).toNat p) (by rw [w_up_eq, w_up_nb (by decide)]) ?_
    refine sp_c_isRegular (hge _) ?_
    by_cases e : b_reg (W (p + t_dl W (L - p).toNat p))
    · rw [if_pos e, if_neg (by decide), w_up_up, w_up_id rfl]
      exact h0 (fun z => z.2 e)
    · rw [if_neg e, if_pos rfl]
      exact h1 ⟨q, e⟩ (hh.mv (by omega) (by omega))
-- the reference
/-- what it has of a long number -/
def t_hi (T v : Int) : Prop := 0 ≤ v ∧ v ≤ 42949672970 ∧ ((v = T) ∨ (4294967296 < v ∧ 4294967296 < T))
theorem t_hi_step {T v c : Int} (h : t_hi T v) (hv : ¬ 4294967296 < v) (h1 : 48 ≤ c) (h2 : c ≤ 57) : t_hi (T * 10 + (c - 48)) (w_64 (w_64 (w_64 (10 * v) + c) - 48)) := by
  obtain ⟨a1, a2, a3⟩ := h
  have a4 : v = T := by
    rcases a3 with z | z
    · exact z
    · exact absurd z.1 hv
  subst a4
  rw [w_64_id (x := 10 * v) (by omega) (by omega), w_64_id (x := 10 * v + c) (by omega) (by omega), w_64_id (by omega) (by omega)]
  exact ⟨by omega, by omega, Or.inl (by omega)⟩
theorem t_hi_stay {T v c : Int} (h : t_hi T v) (hv : 4294967296 < v) (h1 : 48 ≤ c) : t_hi (T * 10 + (c - 48)) v := by
  obtain ⟨a1, a2, a3⟩ := h
  have a4 : 4294967296 < T := by
    rcases a3 with z | z
    · rw [← z]; exact hv
    · exact z.2
  exact ⟨a1, a2, Or.inr ⟨hv, by omega⟩⟩
theorem sp_plainRow (hw : m_st n W L p) (h1 : t_rdg W L p → Q (if 2147483647 < t_dn W p (t_dl W (L - p).toNat p) then -2 else t_dn W p (t_dl W (L - p).toNat p)) (w_up n 428 21 (p + t_dl W (L - p).toNat p))) (h0 : ¬ t_rdg W L p → Q (-1) n) : xc_m_plainRow (d + 4) n Q := by
  obtain ⟨hv, hL, hp, hp0, hp1⟩ := hw
  have hok := hv.1
  have stop : ∀ (j : Nat), t_dl W (L - p).toNat p = j → p + j ≤ L → ¬ b_dig (W (p + j)) → ∀ v, t_hi (t_dn W p j) v → xp_m_plainRow_4 (d + 3) v j n Q := by
    intro j hl hj hd v hhi
    apply xr_m_plainRow_4
    refine sp_r_peek hv hp hp0 (by omega) (by omega) (by omega) ?_
    refine sp_r_isDigit ?_
    rw [if_neg hd, if_pos rfl]
    by_cases z : (j : Int) = 0
    · rw [if_pos z]
      exact h0 (fun y => by have := y.1; omega)
    · rw [if_neg z]
      refine sp_r_peek hv hp hp0 (by omega) (by omega) (by omega) ?_
      refine sp_r_isRegular ?_
      by_cases e : b_reg (W (p + j))
      · rw [if_pos e, if_neg (by decide)]
        exact h0 (fun y => y.2 (by rw [hl]; exact e))
      · rw [if_neg e, if_pos rfl, hp, w_32_id (by omega) (by omega)]
        have hx : t_rdg W L p := ⟨by omega, by rw [hl]; exact e⟩
        have h1 := h1 hx
        rw [hl] at h1
        obtain ⟨a1, a2, a3⟩ := hhi
        by_cases g : 2147483647 < v
        · rw [if_pos g]
          rw [if_pos (by rcases a3 with a3 | a3 <;> omega)] at h1
          exact h1
        · rw [if_neg g]
          rw [if_neg (by rcases a3 with a3 | a3 <;> omega)] at h1
          rcases a3 with a3 | a3
          · rw [a3]; exact h1
          · omega
  have run : ∀ (q j : Nat), p + j + q = L → t_dl W (L - p).toNat p = j + t_dl W q (p + j) → ∀ v, t_hi (t_dn W p j) v → xp_m_plainRow_4 (d + 3) v j n Q := by
    intro q
    induction q with
    | zero =>
      intro j hj hl v hhi
      exact stop j hl (by omega) (t_ends hok (by omega)) v hhi
    | succ q ih =>
      intro j hj hl v hhi
      have el : t_dl W (q + 1) (p + j) = if b_dig (W (p + j)) then t_dl W q (p + j + 1) + 1 else 0 := rfl
      by_cases e : b_dig (W (p + j))
      · rw [el, if_pos e] at hl
        have nx := ih (j + 1) (by omega) (by rw [hl, show p + ((j + 1 : Nat) : Int) = p + j + 1 by omega]; omega)
        apply xr_m_plainRow_4
        refine sp_r_peek hv hp hp0 (by omega) (by omega) (by omega) ?_
        refine sp_r_isDigit ?_
        rw [if_pos e, if_neg (by decide), w_32_id (x := (j : Int) + 1) (by omega) (by omega), show (j : Int) + 1 = ((j + 1 : Nat) : Int) by omega]
        by_cases g : 4294967296 < v
        · rw [if_pos g]
          exact nx v (t_hi_stay hhi g e.1)
        · rw [if_neg g]
          refine sp_r_peek hv hp hp0 (by omega) (by omega) (by omega) ?_
          exact nx _ (t_hi_step hhi g e.1 e.2)
      · rw [el, if_neg e] at hl
        exact stop j hl (by omega) e v hhi
  apply xr_m_plainRow
  exact run (L - p).toNat 0 (by omega) (by rw [show p + ((0 : Nat) : Int) = p by omega, Nat.zero_add]) 0 ⟨by decide, by decide, Or.inl rfl⟩
theorem sp_m_digits_5 (hw : m_st n W L p) {a k : Nat} (ha : a ≤ 1000) (hk : k ≤ 15) (hd : ∀ i : Nat, i < k → b_dig (W (p + a + i))) (hQ : Q (t_dn W (p + a) k) n) :
    ∀ (q j : Nat), j + q = k → xp_m_digits_5 (d + 1) a k (t_dn W (p + a) j) ((a : Int) + j) n Q := by
  intro q
  obtain ⟨hv, hL, hp, hp0, hp1⟩ := hw
  induction q with
  | zero =>
    intro j hj
    apply xr_m_digits_5
    rw [w_32_id (x := (a : Int) + k) (by omega) (by omega), if_neg (by omega), show j = k by omega]
    exact hQ
  | succ q ih =>
    intro j hj
    apply xr_m_digits_5
    rw [w_32_id (x := (a : Int) + k) (by omega) (by omega), if_pos (by omega)]
    refine sp_r_peek hv hp hp0 (by omega) (by omega) (by omega) ?_
    have h1 := t_dn_pos (W := W) (p := p + a) j (fun i hi => hd i (by omega))
    have h2 := t_dn_lt (W := W) (p := p + a) j (fun i hi => hd i (by omega))
    have h3 := (t_ten j (by omega)).2
    have h4 := hd j (by omega)
    rw [show p + ((a : Int) + (j : Int)) = p + a + j by omega, w_64_id (x := 10 * t_dn W (p + a) j) (by omega) (by omega), w_64_id (x := 10 * t_dn W (p + a) j + W (p + a + j)) (by omega) (by omega), w_64_id (by omega) (by omega), w_32_id (by omega) (by omega), show 10 * t_dn W (p + a) j + W (p + a + j) - 48 = t_dn W (p + a) (j + 1) by show _ = t_dn W (p + a) j * 10 + (W (p + a + j) - 48); omega, show (a : Int) + j + 1 = (a : Int) + ((j + 1 : Nat) : Int) by omega]
    exact ih (j + 1) (by omega)
theorem sp_m_digits (hw : m_st n W L p) {a k : Nat} (ha : a ≤ 1000) (hk : k ≤ 15) (hd : ∀ i : Nat, i < k → b_dig (W (p + a + i))) (hQ : Q (t_dn W (p + a) k) n) : xc_m_digits (d + 2) a k n Q := by
  apply xr_m_digits
  have key := sp_m_digits_5 (d := d) hw ha hk hd hQ k 0 (by omega)
  rw [show (a : Int) + ((0 : Nat) : Int) = a by omega] at key
  exact key
end TD
