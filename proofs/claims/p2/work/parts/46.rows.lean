/-! ===== rows of regular bytes: numbers and words ===== -/
/-- what is gathered of a row: points, digits before, digits behind, the number before, that behind, its scale, whether it is a word -/
abbrev g_t : Type := Int × Int × Int × Int × Int × Int × Int
def g_st (s : g_t) (c : Int) (k : Nat) : g_t :=
  if b_dig c then (if s.1 = 0 then (s.1, s.2.1 + 1, s.2.2.1, s.2.2.2.1 * 10 + (c - 48), s.2.2.2.2.1, s.2.2.2.2.2.1, s.2.2.2.2.2.2)
    else if 9 < s.2.2.1 + 1 then (s.1, s.2.1, s.2.2.1 + 1, s.2.2.2.1, s.2.2.2.2.1, s.2.2.2.2.2.1, s.2.2.2.2.2.2)
    else (s.1, s.2.1, s.2.2.1 + 1, s.2.2.2.1, s.2.2.2.2.1 * 10 + (c - 48), s.2.2.2.2.2.1 * 10, s.2.2.2.2.2.2))
  else if c = 46 then (s.1 + 1, s.2.1, s.2.2.1, s.2.2.2.1, s.2.2.2.2.1, s.2.2.2.2.2.1, s.2.2.2.2.2.2)
  else if k = 0 ∧ (c = 43 ∨ c = 45) then s
  else (s.1, s.2.1, s.2.2.1, s.2.2.2.1, s.2.2.2.2.1, s.2.2.2.2.2.1, 1)
/-- of the first k bytes from p on -/
def g_s (W : Int → Int) (p : Int) : Nat → g_t
  | 0 => (0, 0, 0, 0, 0, 1, 0)
  | k + 1 => g_st (g_s W p k) (W (p + k)) k
/-- how many regular bytes stand there -/
def g_len (W : Int → Int) : Nat → Int → Nat
  | 0, _ => 0
  | k + 1, p => if b_reg (W p) then g_len W k (p + 1) + 1 else 0
theorem g_len_le (W : Int → Int) : ∀ (k : Nat) (p : Int), g_len W k p ≤ k := by
  intro k
  induction k with
  | zero => intro p; exact Nat.le_refl _
  | succ k ih =>
    intro p
    have := ih (p + 1)
    show (if b_reg (W p) then g_len W k (p + 1) + 1 else 0) ≤ k + 1
    split <;> omega
theorem g_ten : ∀ j : Nat, j ≤ 9 → (1 : Int) ≤ 10 ^ j ∧ (10 : Int) ^ j ≤ 1000000000 := by decide +kernel
/-- what always holds of it -/
theorem g_ok (W : Int → Int) (p : Int) : ∀ k : Nat, 0 ≤ (g_s W p k).1 ∧ (g_s W p k).1 ≤ k ∧ 0 ≤ (g_s W p k).2.1 ∧ (g_s W p k).2.1 ≤ k ∧ 0 ≤ (g_s W p k).2.2.1 ∧ (g_s W p k).2.2.1 ≤ k ∧ (g_s W p k).2.1 + (g_s W p k).2.2.1 ≤ k ∧ 0 ≤ (g_s W p k).2.2.2.1 ∧ ((g_s W p k).2.1 ≤ 9 → (g_s W p k).2.2.2.1 < 10 ^ (g_s W p k).2.1.toNat) ∧
    0 ≤ (g_s W p k).2.2.2.2.1 ∧ (g_s W p k).2.2.2.2.1 < (g_s W p k).2.2.2.2.2.1 ∧ (∃ j : Nat, j ≤ 9 ∧ (g_s W p k).2.2.2.2.2.1 = 10 ^ j ∧ ((j : Int) = (g_s W p k).2.2.1 ∨ (9 < (g_s W p k).2.2.1 ∧ j = 9))) ∧ ((g_s W p k).2.2.2.2.2.2 = 0 ∨ (g_s W p k).2.2.2.2.2.2 = 1) := by
  intro k
  induction k with
  | zero =>
    have e : g_s W p 0 = (0, 0, 0, 0, 0, 1, 0) := rfl
    rw [e]
    exact ⟨by decide, by decide, by decide, by decide, by decide, by decide, by decide, by decide, fun _ => by decide, by decide, by decide, ⟨0, by decide, rfl, Or.inl rfl⟩, Or.inl rfl⟩
  | succ k ih =>
    have e : g_s W p (k + 1) = g_st (g_s W p k) (W (p + k)) k := rfl
    rw [e]
    generalize g_s W p k = s at ih ⊢
    obtain ⟨pt, bf, bh, T, pr, sc, wd⟩ := s
    simp only at ih
    obtain ⟨h1, h2, h3, h4, h5, h6, h7, h8, h9, h10, h11, ⟨j, j1, j2, j3⟩, h12⟩ := ih
    have hj := g_ten j j1
    generalize W (p + k) = c
    unfold g_st
    dsimp only
    by_cases q1 : b_dig c
    · rw [if_pos q1]
      by_cases q2 : pt = 0
      · rw [if_pos q2]
        dsimp only
        refine ⟨h1, by omega, by omega, by omega, h5, by omega, by omega, by omega, fun q => ?_, h10, h11, ⟨j, j1, j2, j3⟩, h12⟩
        have h13 := h9 (by omega)
        have e2 : (bf + 1).toNat = bf.toNat + 1 := by omega
        rw [e2, Int.pow_succ]
        omega
      · rw [if_neg q2]
        by_cases q3 : 9 < bh + 1
        · rw [if_pos q3]
          dsimp only
          exact ⟨h1, by omega, h3, by omega, by omega, by omega, by omega, h8, h9, h10, h11, ⟨j, j1, j2, Or.inr (by omega)⟩, h12⟩
        · rw [if_neg q3]
          dsimp only
          refine ⟨h1, by omega, h3, by omega, by omega, by omega, by omega, h8, h9, by omega, by omega, ⟨j + 1, by omega, by rw [Int.pow_succ, ← j2], Or.inl (by omega)⟩, h12⟩
    · rw [if_neg q1]
      by_cases q2 : c = 46
      · rw [if_pos q2]
        dsimp only
        exact ⟨by omega, by omega, h3, by omega, h5, by omega, by omega, h8, h9, h10, h11, ⟨j, j1, j2, j3⟩, h12⟩
      · rw [if_neg q2]
        by_cases q3 : k = 0 ∧ (c = 43 ∨ c = 45)
        · rw [if_pos q3]
          dsimp only
          exact ⟨h1, by omega, h3, by omega, h5, by omega, by omega, h8, h9, h10, h11, ⟨j, j1, j2, j3⟩, h12⟩
        · rw [if_neg q3]
          dsimp only
          exact ⟨h1, by omega, h3, by omega, h5, by omega, by omega, h8, h9, h10, h11, ⟨j, j1, j2, j3⟩, Or.inr rfl⟩
/-- a word (-1), a whole (2), a real (3) -/
def g_kd (s : g_t) : Int := if s.2.2.2.2.2.2 ≠ 0 ∨ 1 < s.1 ∨ s.2.1 + s.2.2.1 = 0 then -1 else if s.1 = 0 then 2 else 3
/-- its number, or its units -/
def g_ab (s : g_t) : Int := if s.1 = 1 then s.2.2.2.1 * 65536 + (s.2.2.2.2.1 * 131072 + s.2.2.2.2.2.1) / (2 * s.2.2.2.2.2.1) else s.2.2.2.1
def g_va (s : g_t) (c : Int) : Int := if c = 45 then -g_ab s else g_ab s
def g_by (s : g_t) (c : Int) : Prop := (s.1 = 1 ∧ (9 < s.2.1 ∨ 9 < s.2.2.1)) ∨ g_va s c < -2147483648 ∨ 2147483647 < g_va s c
/-- the row of regular bytes at p: the class has looked at it -/
def c_row (m : w_M) (P : Int) (W : Int → Int) (L p : Int) : Prop :=
  m P 12 = m P 3 + p + g_len W (L - p).toNat p ∧ m P 13 = g_kd (g_s W p (g_len W (L - p).toNat p)) ∧
  ((m P 15 = 1 ∧ g_by (g_s W p (g_len W (L - p).toNat p)) (W p)) ∨ (m P 15 = 0 ∧ ¬ g_by (g_s W p (g_len W (L - p).toNat p)) (W p) ∧ m P 14 = g_va (g_s W p (g_len W (L - p).toNat p)) (W p))) ∧
  m P 16 = (if W p = 43 ∨ W p = 45 then 1 else 0)
