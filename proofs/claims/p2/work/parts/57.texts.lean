/-! ===== the class's names and strings as wholes; what the reference counts ===== -/
section TY
variable {d : Nat} {m m' n : w_M} {P L p : Int} {l : List Int} {W : Int → Int} {Q : Int → w_M → Prop}
theorem c_tx.sm (h : c_tx m m' P l) (hP : w_isP P) : m' P 3 = m P 3 ∧ m' P 6 = m P 6 ∧ m' P 8 = m P 8 ∧ m' P 9 = m P 9 ∧ m' 359 6 = m 359 6 ∧ m' 359 7 = m 359 7 := by
  have hP2 : P ≠ 359 ∧ P ≠ 365 := by rcases hP with rfl | rfl <;> decide
  exact ⟨h.1 _ _ (by omega) (by omega), h.1 _ _ (by omega) (by omega), h.1 _ _ (by omega) (by omega), h.1 _ _ (by omega) (by omega), h.1 _ _ (by omega) (by omega), h.1 _ _ (by omega) (by omega)⟩
theorem c_rm.tx (h : c_rm m P) (ht : c_tx m m' P l) (hP : w_isP P) : c_rm m' P := by
  obtain ⟨e3, e6, e8, e9, f6, f7⟩ := ht.sm hP
  unfold c_rm at h ⊢
  rw [e8, e9, f6, f7]
  exact h
theorem c_full.tx (ht : c_tx m m' P l) (hP : w_isP P) {s : Int} : c_full m' P s ↔ c_full m P s := by
  obtain ⟨e3, e6, e8, e9, f6, f7⟩ := ht.sm hP
  unfold c_full
  rw [e8, e9, f6, f7]
/-- the class reads a name -/
theorem sp_name (h : c_st m P W L p) (h2 : m P 2 ≠ 365) (hr : c_rm m P) (hin : p < L)
    (hro : ∀ e l', u_n W (L - (p + 1)).toNat (p + 1) [] = (0, e, l') → ¬ c_full m P l'.length → m 359 7 + l'.length ≤ 108612)
    (hb : ∀ e l', u_n W (L - (p + 1)).toNat (p + 1) [] = (1, e, l') → ∀ m', c_tx m m' P l' → Q (-1) (c_fl m' P 4 (m P 3 + p)))
    (hf : ∀ e l', u_n W (L - (p + 1)).toNat (p + 1) [] = (0, e, l') → (60 < (l'.length : Int) ∨ c_full m P l'.length) → ∀ m', c_tx m m' P l' → Q (-1) (c_fl m' P 5 (m P 3 + p)))
    (hg : ∀ e l', u_n W (L - (p + 1)).toNat (p + 1) [] = (0, e, l') → p + 1 ≤ e → e ≤ L → (l'.length : Int) ≤ 60 → ¬ c_full m P l'.length → ∀ m', c_tx m m' P l' → m' P 4 = m P 3 + e → Q (m 359 6) (c_new m' 4 (m 359 7) l'.length l'.length)) : xc_ps_name (d + 4) P m Q := by
  obtain ⟨k1, k2, k3, k4, k5⟩ := h
  have hP := k1.2.1
  have hb3 : 0 ≤ m P 3 ∧ m P 3 + L ≤ 200000 := by
    obtain ⟨⟨v1, v2, v3⟩, h2, h3, h4, h4b, h5, h6, h7, h8, h9⟩ := k1
    omega
  have h7 : 0 ≤ m 359 7 ∧ m 359 7 ≤ 200000 := by
    obtain ⟨r1, r2, r3, r4, r5, r6, r7, r8⟩ := hr
    omega
  apply xr_ps_name hP
  rw [k2, w_32_id (by omega) (by omega), show m P 3 + p + 1 = m P 3 + (p + 1) by omega]
  refine sp_name_14 (d := d + 2) (m0 := m) k1 h2 h7 (L - (p + 1)).toNat (p + 1) [] _ (by omega) (by omega) (by omega) (by show ((0 : Nat) : Int) ≤ p + 1; omega) (c_tx.nil' hP) (fun e l' y1 y2 y3 y4 m' t => ?_) (fun e l' y1 m' t => ?_)
  · obtain ⟨e3, e6, e8, e9, f6, f7⟩ := t.sm hP
    have t2 := t.at4 hP (v := m P 3 + e)
    obtain ⟨g3, g6, g8, g9, i6, i7⟩ := t2.sm hP
    apply xr_ps_name_113 hP
    rw [t.2.1, f7]
    by_cases q : 60 < (l'.length : Int)
    · rw [if_pos q]
      exact sp_failAt hP (by rw [g3]; omega) (by omega) (hf e l' y1 (Or.inl q) _ t2)
    · rw [if_neg q]
      refine sp_make_t (Or.inl rfl) hP (hr.tx t2 hP) (by omega) (fun z => by rw [i7]; exact hro e l' y1 (fun y => z ((c_full.tx t2 hP).2 y))) (by rw [g3]; omega) (by omega) (fun z => ?_) (fun z => ?_)
      · exact hf e l' y1 (Or.inr ((c_full.tx t2 hP).1 z)) _ t2
      · rw [i6]
        exact hg e l' y1 y2 y3 (by omega) (fun y => z ((c_full.tx t2 hP).2 y)) _ t2 w_up_eq
  · obtain ⟨e3, e6, e8, e9, f6, f7⟩ := t.sm hP
    exact sp_failAt hP (by rw [e3]; omega) (by omega) (hb e l' y1 m' t)
theorem sp_string_26 {at' : Int} {l' : List Int} {e : Int} (hP : w_isP P) (hr : c_rm m P) (hb3 : 0 ≤ m P 3 ∧ m P 3 ≤ 200000) (ha : 0 ≤ at' ∧ at' ≤ 400000) (hl : l'.length ≤ 200000) (t : c_tx m m' P l') (hro : ¬ c_full m P l'.length → m 359 7 + l'.length ≤ 108612)
    (hf : (2000 < m' P 17 ∨ c_full m P l'.length) → Q (-1) (c_fl m' P 5 at'))
    (hg : m' P 17 ≤ 2000 → ¬ c_full m P l'.length → Q (m 359 6) (c_new m' 5 (m 359 7) l'.length l'.length)) : xp_ps_string_26 (d + 2) P at' 1 m' Q := by
  obtain ⟨e3, e6, e8, e9, f6, f7⟩ := t.sm hP
  apply xr_ps_string_26 hP
  rw [if_neg (by decide), f7]
  by_cases q : 2000 < m' P 17
  · rw [if_pos q]
    exact sp_failAt hP (by rw [e3]; omega) ha (hf (Or.inl q))
  · rw [if_neg q]
    have e17 := t.2.1
    rw [e17]
    refine sp_make_t (Or.inr rfl) hP (hr.tx t hP) (by omega) (fun z => by rw [f7]; exact hro (fun y => z ((c_full.tx t hP).2 y))) (by rw [e3]; omega) ha (fun z => ?_) (fun z => ?_)
    · exact hf (Or.inr ((c_full.tx t hP).1 z))
    · rw [f6]
      exact hg (by omega) (fun y => z ((c_full.tx t hP).2 y))
/-- what a string is: a round one, or one of hexes -/
def u_s (W : Int → Int) (L p : Int) : Int × Int × List Int := if W p = 40 then u_r W (L - (p + 1)).toNat (p + 1) 1 [] else u_x W (L - (p + 1)).toNat (p + 1) (-1) []
/-- the class reads a string -/
theorem sp_string (h : c_st m P W L p) (h2 : m P 2 ≠ 365) (hr : c_rm m P) (hin : p < L)
    (hro : ∀ e l', u_s W L p = (0, e, l') → ¬ c_full m P l'.length → m 359 7 + l'.length ≤ 108612)
    (hb : ∀ e l', u_s W L p = (1, e, l') → ∀ m', c_tx m m' P l' → Q (-1) (c_fl m' P 4 (m P 3 + p)))
    (hf : ∀ e l', u_s W L p = (0, e, l') → ∀ m', c_tx m m' P l' → (2000 < m' P 17 ∨ c_full m P l'.length) → Q (-1) (c_fl m' P 5 (m P 3 + p)))
    (hg : ∀ e l', u_s W L p = (0, e, l') → 0 ≤ e → e ≤ L → ¬ c_full m P l'.length → ∀ m', c_tx m m' P l' → m' P 17 ≤ 2000 → m' P 4 = m P 3 + e → Q (m 359 6) (c_new m' 5 (m 359 7) l'.length l'.length)) : xc_ps_string (d + 4) P m Q := by
  obtain ⟨k1, k2, k3, k4, k5⟩ := h
  have hP := k1.2.1
  have hb3 : 0 ≤ m P 3 ∧ m P 3 + L ≤ 200000 := by
    obtain ⟨⟨v1, v2, v3⟩, h2, h3, h4, h4b, h5, h6, h7, h8, h9⟩ := k1
    omega
  have h7 : 0 ≤ m 359 7 ∧ m 359 7 ≤ 200000 := by
    obtain ⟨r1, r2, r3, r4, r5, r6, r7, r8⟩ := hr
    omega
  have bad : ∀ e l', u_s W L p = (1, e, l') → ∀ m', c_tx m m' P l' → xp_ps_string_26 (d + 3) P (m P 3 + p) 0 m' Q := by
    intro e l' y1 m' t
    obtain ⟨e3, e6, e8, e9, f6, f7⟩ := t.sm hP
    apply xr_ps_string_26 hP
    rw [if_pos rfl]
    exact sp_failAt hP (by rw [e3]; omega) (by omega) (hb e l' y1 m' t)
  apply xr_ps_string hP
  refine sp_ps_at k1 k2 ?_
  rw [k2]
  by_cases q : W p = 40
  · rw [if_pos q]
    have es : u_s W L p = u_r W (L - (p + 1)).toNat (p + 1) 1 [] := if_pos q
    rw [es] at hb hf hg bad hro
    apply xr_ps_scanRound hP
    rw [k2, w_32_id (by omega) (by omega), show m P 3 + p + 1 = m P 3 + (p + 1) by omega]
    refine sp_scanRound_17 (d := d) (m0 := m) k1 h2 h7 (L - (p + 1)).toNat (p + 1) 1 [] _ (by omega) (by omega) (by omega) (by decide) (by omega) (by show ((0 : Nat) : Int) ≤ p + 1; omega) (c_tx.nil hP) w_up_eq (fun e l' y1 y2 y3 y4 m' t t4 => ?_) (fun e l' y1 m' t => bad e l' y1 m' t)
    exact sp_string_26 (e := e) hP hr (by omega) (by omega) (by omega) t (hro e l' y1) (hf e l' y1 m' t) (fun z1 z2 => hg e l' y1 y2 y3 z2 m' t z1 t4)
  · rw [if_neg q]
    have es : u_s W L p = u_x W (L - (p + 1)).toNat (p + 1) (-1) [] := if_neg q
    rw [es] at hb hf hg bad hro
    apply xr_ps_scanHex hP
    rw [k2, w_32_id (by omega) (by omega), show m P 3 + p + 1 = m P 3 + (p + 1) by omega]
    refine sp_scanHex_17 (d := d + 1) (m0 := m) k1 h2 h7 (L - (p + 1)).toNat (p + 1) (-1) [] _ (by omega) (by omega) (by omega) (by decide) (by decide) (by show ((0 : Nat) : Int) ≤ p + 1; omega) (c_tx.nil hP) w_up_eq (fun e l' y1 y2 y3 y4 m' t t4 => ?_) (fun e l' y1 m' t => bad e l' y1 m' t)
    exact sp_string_26 (e := e) hP hr (by omega) (by omega) (by omega) t (hro e l' y1) (hf e l' y1 m' t) (fun z1 z2 => hg e l' y1 y2 y3 z2 m' t z1 t4)
/-- the reference counts one more node, and s bytes -/
def m_ct (n : w_M) (s : Int) : w_M := w_up (w_up n 428 29 (n 428 29 + 1)) 428 31 (n 428 31 + s)
def m_cs (n : w_M) : Int := if n 428 22 = 4 ∨ n 428 22 = 5 then n 428 26 else 0
/-- more than may be -/
def m_cf (n : w_M) : Prop := n 428 30 < n 428 29 + 1 ∨ (n 428 32 ≠ 0 ∧ 60000 < n 428 31 + m_cs n)
theorem sp_counted (h29 : 0 ≤ n 428 29 ∧ n 428 29 ≤ 1000000) (h31 : 0 ≤ n 428 31 ∧ n 428 31 ≤ 1000000000) (h26 : 0 ≤ m_cs n ∧ m_cs n ≤ 1000000)
    (h1 : m_cf n → Q 0 (m_fl (m_ct n (m_cs n)) 5 (n 428 23))) (h0 : ¬ m_cf n → Q 0 (m_ct n (m_cs n))) : xc_m_counted (d + 2) n Q := by
  have key : xp_m_counted_49 (d + 1) (n 428 31) (m_cs n) (w_up n 428 29 (n 428 29 + 1)) Q := by
    apply xr_m_counted_49
    rw [w_32_id (by omega) (by omega), w_up_nb (by decide), w_up_eq, w_up_nb (by decide), w_up_nb (by decide)]
    have ec : w_up (w_up n 428 29 (n 428 29 + 1)) 428 31 (n 428 31 + m_cs n) = m_ct n (m_cs n) := rfl
    rw [ec]
    by_cases q1 : n 428 30 < n 428 29 + 1
    · rw [if_pos q1]
      exact sp_m_fail (h1 (Or.inl q1))
    · rw [if_neg q1]
      by_cases q2 : n 428 32 = 0
      · rw [if_pos q2]
        exact h0 (fun z => z.elim q1 (fun y => y.1 q2))
      · rw [if_neg q2]
        by_cases q3 : 60000 < n 428 31 + m_cs n
        · rw [if_pos q3]
          exact sp_m_fail (h1 (Or.inr ⟨q2, q3⟩))
        · rw [if_neg q3]
          exact h0 (fun z => z.elim q1 (fun y => q3 y.2))
  apply xr_m_counted
  rw [w_32_id (x := n 428 29 + 1) (by omega) (by omega)]
  unfold m_cs at key
  by_cases q1 : n 428 22 = 4
  · rw [if_pos q1]
    rw [if_pos (Or.inl q1)] at key
    exact key
  · rw [if_neg q1]
    by_cases q2 : n 428 22 = 5
    · rw [if_pos q2]
      rw [if_pos (Or.inr q2)] at key
      exact key
    · rw [if_neg q2]
      rw [if_neg (by omega)] at key
      exact key
end TY
