/-! ===== white of the reference ===== -/
theorem k_w_t (W : Int → Int) : ∀ (k : Nat) (p : Int), ∃ j : Nat, j ≤ k ∧ k_r W k p = p + j ∧ k_w W k true p = k_w W (k - j) false (p + j) := by
  intro k
  induction k with
  | zero => intro p; exact ⟨0, Nat.le_refl _, by show p = p + ((0 : Nat) : Int); omega, by rw [show p + ((0 : Nat) : Int) = p by omega]; rfl⟩
  | succ k ih =>
    intro p
    by_cases q : W p = 10 ∨ W p = 13
    · refine ⟨0, Nat.zero_le _, ?_, ?_⟩
      · have e : k_r W (k + 1) p = p := if_pos q
        rw [e]; omega
      · rw [show p + ((0 : Nat) : Int) = p by omega]
        have e1 : k_w W (k + 1) true p = k_w W k false (p + 1) := if_pos q
        have e2 : k_w W (k + 1) false p = k_w W k false (p + 1) := if_pos q
        rw [e1]
        exact e2.symm
    · obtain ⟨j, h1, h2, h3⟩ := ih (p + 1)
      refine ⟨j + 1, by omega, ?_, ?_⟩
      · have e : k_r W (k + 1) p = k_r W k (p + 1) := if_neg q
        rw [e, h2]; omega
      · have e : k_w W (k + 1) true p = k_w W k true (p + 1) := by
          show (if W p = 10 ∨ W p = 13 then k_w W k false (p + 1) else if W p = 37 then k_w W k true (p + 1) else if true = false ∧ ¬ b_w (W p) then p else k_w W k true (p + 1)) = _
          rw [if_neg q]
          split
          · rfl
          · rw [if_neg (by simp)]
        rw [e, h3, show k + 1 - (j + 1) = k - j by omega, show p + ((j + 1 : Nat) : Int) = p + 1 + j by omega]
section WR
variable {d : Nat} {n : w_M} {L : Int} {W : Int → Int} {Q : Int → w_M → Prop}
theorem sp_white_14 (hv : v_m n W L) (hL : L ≤ 200000) : ∀ (k : Nat) (p : Int), 0 ≤ p → p + k = L → xc_m_blanks (d + 1) (w_up n 428 21 (k_r W k p)) (fun r2 m2 => xp_m_white_4 (d + 1) m2 Q) → xp_m_white_14 (d + 1) (w_up n 428 21 p) Q := by
  intro k
  induction k with
  | zero =>
    intro p h0 hk h
    apply xr_m_white_14
    refine sp_r_peek (hv.up (k := 21) (v := p) (by decide)) w_up_eq h0 (by omega) (by decide) (by decide) ?_
    rw [hv.1.2.2 (p + 0) (Or.inr (by omega)), if_pos (by decide)]
    exact h
  | succ k ih =>
    intro p h0 hk h
    have hr := hv.1.2.1 p h0 (by omega)
    apply xr_m_white_14
    refine sp_r_peek (hv.up (k := 21) (v := p) (by decide)) w_up_eq h0 (by omega) (by decide) (by decide) ?_
    rw [Int.add_zero, if_neg (by omega)]
    refine sp_r_peek (hv.up (k := 21) (v := p) (by decide)) w_up_eq h0 (by omega) (by decide) (by decide) ?_
    rw [Int.add_zero]
    by_cases q1 : W p = 10
    · rw [if_pos q1]
      have e : k_r W (k + 1) p = p := if_pos (Or.inl q1)
      rw [e] at h
      exact h
    · rw [if_neg q1]
      refine sp_r_peek (hv.up (k := 21) (v := p) (by decide)) w_up_eq h0 (by omega) (by decide) (by decide) ?_
      rw [Int.add_zero]
      by_cases q2 : W p = 13
      · rw [if_pos q2]
        have e : k_r W (k + 1) p = p := if_pos (Or.inr q2)
        rw [e] at h
        exact h
      · rw [if_neg q2, w_up_eq, w_up_up, w_32_id (by omega) (by omega)]
        have e : k_r W (k + 1) p = k_r W k (p + 1) := if_neg (by omega)
        rw [e] at h
        exact ih (p + 1) (by omega) (by omega) h
theorem sp_white_4 (hv : v_m n W L) (hL : L ≤ 200000) : ∀ (b k : Nat) (p : Int), k ≤ b → 0 ≤ p → p + k = L → ¬ b_w (W p) → Q 0 (w_up n 428 21 (k_w W k false p)) → xp_m_white_4 (d + 2) (w_up n 428 21 p) Q := by
  intro b
  induction b with
  | zero =>
    intro k p hb h0 hk hw h
    have hk0 : k = 0 := by omega
    subst hk0
    apply xr_m_white_4
    refine sp_r_peek (hv.up (k := 21) (v := p) (by decide)) w_up_eq h0 (by omega) (by decide) (by decide) ?_
    rw [hv.1.2.2 (p + 0) (Or.inr (by omega)), if_neg (by decide)]
    exact h
  | succ b ih =>
    intro k p hb h0 hk hw h
    apply xr_m_white_4
    refine sp_r_peek (hv.up (k := 21) (v := p) (by decide)) w_up_eq h0 (by omega) (by decide) (by decide) ?_
    rw [Int.add_zero]
    by_cases q : W p = 37
    · rw [if_pos q]
      have hkp : 0 < k := by
        rcases Nat.eq_zero_or_pos k with e | e
        · have := hv.1.2.2 p (Or.inr (by omega)); omega
        · exact e
      obtain ⟨k, rfl⟩ : ∃ i, k = i + 1 := ⟨k - 1, by omega⟩
      refine sp_white_14 (d := d + 1) hv hL (k + 1) p h0 hk ?_
      obtain ⟨j, j1, j2, j3⟩ := k_w_t W (k + 1) p
      have hj : 0 < j := by
        have e : k_r W (k + 1) p = k_r W k (p + 1) := if_neg (by omega)
        obtain ⟨j', i1, i2, i3⟩ := k_w_t W k (p + 1)
        rw [e] at j2
        omega
      have ew : k_w W (k + 1) false p = k_w W (k + 1) true p := by
        show (if W p = 10 ∨ W p = 13 then k_w W k false (p + 1) else if W p = 37 then k_w W k true (p + 1) else _) = (if W p = 10 ∨ W p = 13 then k_w W k false (p + 1) else if W p = 37 then k_w W k true (p + 1) else _)
        rw [if_neg (by omega), if_pos q, if_neg (by omega), if_pos q]
      rw [ew, j3] at h
      rw [j2]
      obtain ⟨i, i1, i2, i3, i4⟩ := k_w_b W (k + 1 - j) (p + j)
      rw [i3] at h
      have hv2 := hv.up (k := 21) (v := p + j) (by decide)
      refine sp_blanks (p := p + j) hv2 hL w_up_eq (by omega) (by omega) ?_
      rw [w_up_up, show (L - (p + j)).toNat = k + 1 - j by omega, i2]
      refine ih (k + 1 - j - i) (p + j + i) (by omega) (by omega) (by omega) ?_ h
      by_cases qq : i < k + 1 - j
      · exact i4 qq
      · rw [hv.1.2.2 (p + j + i) (Or.inr (by omega))]
        decide
    · rw [if_neg q]
      have e : k_w W k false p = p := by
        cases k with
        | zero => rfl
        | succ k =>
          show (if W p = 10 ∨ W p = 13 then k_w W k false (p + 1) else if W p = 37 then k_w W k true (p + 1) else if false = false ∧ ¬ b_w (W p) then p else k_w W k false (p + 1)) = p
          rw [if_neg (by omega), if_neg q, if_pos ⟨rfl, hw⟩]
      rw [e] at h
      exact h
theorem sp_white (hv : v_m n W L) (hL : L ≤ 200000) {p : Int} (hp : n 428 21 = p) (h0 : 0 ≤ p) (h1 : p ≤ L) (h : Q 0 (w_up n 428 21 (k_w W (L - p).toNat false p))) : xc_m_white (d + 3) n Q := by
  apply xr_m_white
  refine sp_blanks hv hL hp h0 h1 ?_
  obtain ⟨i, i1, i2, i3, i4⟩ := k_w_b W (L - p).toNat p
  rw [i2]
  rw [i3] at h
  refine sp_white_4 hv hL ((L - p).toNat - i) ((L - p).toNat - i) (p + i) (Nat.le_refl _) (by omega) (by omega) ?_ h
  by_cases qq : i < (L - p).toNat
  · exact i4 qq
  · rw [hv.1.2.2 (p + i) (Or.inr (by omega))]
    decide
end WR
