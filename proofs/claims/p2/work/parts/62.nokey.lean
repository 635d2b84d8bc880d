/-! ===== what is no key: the class ===== -/
/-- the fault of what stands in a key's place, and is no name -/
def u_k (W : Int → Int) (L p c : Int) : Prop :=
  ((W p = 40 ∨ (W p = 60 ∧ W (p + 1) ≠ 60)) ∧ ((∃ e l, u_s W L p = (1, e, l) ∧ c = 4) ∨ (∃ (e : Int) (l : List Int) (K : Int), u_s W L p = (0, e, l) ∧ K = l.length ∧ c = if 2000 < K then 5 else 4))) ∨
  (¬ (W p = 40 ∨ (W p = 60 ∧ W (p + 1) ≠ 60)) ∧ ((g_kd (g_s W p (g_len W (L - p).toNat p)) = -1 ∧ c = 4) ∨ (g_kd (g_s W p (g_len W (L - p).toNat p)) ≠ -1 ∧ g_by (g_s W p (g_len W (L - p).toNat p)) (W p) ∧ c = 5) ∨ (g_kd (g_s W p (g_len W (L - p).toNat p)) ≠ -1 ∧ ¬ g_by (g_s W p (g_len W (L - p).toNat p)) (W p) ∧ c = 4)))
/-- but for the place, the row, what was scanned, nothing else has changed -/
def c_cx (m m' : w_M) (P : Int) : Prop := ∀ a b : Int, ¬ (a = P ∧ (b = 4 ∨ (11 ≤ b ∧ b ≤ 17))) → ¬ (a = 365 ∧ m 359 7 ≤ b) → m' a b = m a b
section TK
variable {d : Nat} {m m' : w_M} {P L p : Int} {W : Int → Int} {Q : Int → w_M → Prop}
theorem c_tx.cx {l : List Int} (h : c_tx m m' P l) : c_cx m m' P := fun a b q1 q2 => h.1 a b (by omega) q2
theorem c_ch.cx (h : c_ch m m' P) : c_cx m m' P := fun a b q1 _ => h a b (by omega)
theorem sp_noKey (h : c_st m P W L p) (h2 : m P 2 ≠ 365) (h7 : 0 ≤ m 359 7 ∧ m 359 7 ≤ 200000)
    (hQ : ∀ c, u_k W L p c → ∀ m', c_cx m m' P → Q (-1) (c_fl m' P c (m P 3 + p))) : xc_ps_noKey (d + 4) P (m P 3 + p) m Q := by
  obtain ⟨hP, hok, b1, b2, b3, b4, b5, b6⟩ := h.bd
  have hP2 : P ≠ 365 := by rcases hP with rfl | rfl <;> decide
  have k1 := h.1
  have fl : ∀ c, u_k W L p c → ∀ m', c_cx m m' P → xc_ps_failAt (d + 3) P c (m P 3 + p) m' (fun r m1 => Q r m1) := by
    intro c y1 m' t
    have e3 : m' P 3 = m P 3 := t _ _ (by omega) (by omega)
    exact sp_failAt (d := d + 2) hP (by rw [e3]; omega) (by omega) (hQ c y1 m' t)
  have row : ¬ (W p = 40 ∨ (W p = 60 ∧ W (p + 1) ≠ 60)) → xp_ps_noKey_84 (d + 3) P (m P 3 + p) m Q := by
    intro z
    apply xr_ps_noKey_84 hP
    refine sp_look h (fun m1 x1 x2 x3 x4 => ?_)
    obtain ⟨r1, r2, r3, r4⟩ := x3
    rw [r2]
    by_cases q : g_kd (g_s W p (g_len W (L - p).toNat p)) = -1
    · rw [if_pos q]
      exact fl 4 (Or.inr ⟨z, Or.inl ⟨q, rfl⟩⟩) m1 x1.cx
    · rw [if_neg q]
      rcases r3 with ⟨r5, r6⟩ | ⟨r5, r6, r7⟩
      · rw [if_neg (by omega)]
        exact fl 5 (Or.inr ⟨z, Or.inr (Or.inl ⟨q, r6, rfl⟩)⟩) m1 x1.cx
      · rw [if_pos r5]
        exact fl 4 (Or.inr ⟨z, Or.inr (Or.inr ⟨q, r6, rfl⟩)⟩) m1 x1.cx
  have over : (W p = 40 ∨ (W p = 60 ∧ W (p + 1) ≠ 60)) → ∀ e l, u_s W L p = (0, e, l) → ∀ m', c_tx m m' P l → xp_ps_noKey_53 (d + 3) P (m P 3 + p) m' Q := by
    intro z e l y m' t
    apply xr_ps_noKey_53 hP
    have e17 := t.2.1
    by_cases q : 2000 < m' P 17
    · rw [if_pos q]
      exact fl 5 (Or.inl ⟨z, Or.inr ⟨e, l, m' P 17, y, e17, by rw [if_pos q]⟩⟩) m' t.cx
    · rw [if_neg q]
      exact fl 4 (Or.inl ⟨z, Or.inr ⟨e, l, m' P 17, y, e17, by rw [if_neg q]⟩⟩) m' t.cx
  have str : (W p = 40 ∨ (W p = 60 ∧ W (p + 1) ≠ 60)) → xp_ps_noKey_30 (d + 3) P (m P 3 + p) (W p) m Q := by
    intro z
    have hin := (t_in hok (x := p) (by omega)).2
    apply xr_ps_noKey_30 hP
    by_cases q : W p = 40
    · have es : u_s W L p = u_r W (L - (p + 1)).toNat (p + 1) 1 [] := if_pos q
      rw [if_pos q]
      apply xr_ps_scanRound hP
      rw [b4, w_32_id (by omega) (by omega), show m P 3 + p + 1 = m P 3 + (p + 1) by omega]
      refine sp_scanRound_17 (d := d) (m0 := m) k1 h2 h7 (L - (p + 1)).toNat (p + 1) 1 [] _ (by omega) (by omega) (by omega) (by decide) (by omega) (by show ((0 : Nat) : Int) ≤ p + 1; omega) (c_tx.nil hP) w_up_eq (fun e l' y1 y2 y3 y4 m' t t4 => ?_) (fun e l' y1 m' t => ?_)
      · rw [if_neg (by decide)]
        exact over z e l' (es.trans y1) m' t
      · rw [if_pos rfl]
        exact fl 4 (Or.inl ⟨z, Or.inl ⟨e, l', es.trans y1, rfl⟩⟩) m' t.cx
    · have es : u_s W L p = u_x W (L - (p + 1)).toNat (p + 1) (-1) [] := if_neg q
      rw [if_neg q]
      apply xr_ps_scanHex hP
      rw [b4, w_32_id (by omega) (by omega), show m P 3 + p + 1 = m P 3 + (p + 1) by omega]
      refine sp_scanHex_17 (d := d + 1) (m0 := m) k1 h2 h7 (L - (p + 1)).toNat (p + 1) (-1) [] _ (by omega) (by omega) (by omega) (by decide) (by decide) (by show ((0 : Nat) : Int) ≤ p + 1; omega) (c_tx.nil hP) w_up_eq (fun e l' y1 y2 y3 y4 m' t t4 => ?_) (fun e l' y1 m' t => ?_)
      · rw [if_neg (by decide)]
        exact over z e l' (es.trans y1) m' t
      · rw [if_pos rfl]
        exact fl 4 (Or.inl ⟨z, Or.inl ⟨e, l', es.trans y1, rfl⟩⟩) m' t.cx
  apply xr_ps_noKey hP
  refine sp_ps_at k1 (i := p) rfl ?_
  by_cases q1 : W p = 40
  · rw [if_pos q1]
    exact str (Or.inl q1)
  · rw [if_neg q1]
    by_cases q2 : W p = 60
    · rw [if_pos q2, w_32_id (by omega) (by omega)]
      refine sp_ps_at k1 (i := p + 1) (by omega) ?_
      by_cases q3 : W (p + 1) = 60
      · rw [if_pos q3]
        exact row (fun z => z.elim q1 (fun y => y.2 q3))
      · rw [if_neg q3]
        exact str (Or.inr ⟨q2, q3⟩)
    · rw [if_neg q2]
      exact row (fun z => z.elim q1 (fun y => q2 y.1))
end TK
