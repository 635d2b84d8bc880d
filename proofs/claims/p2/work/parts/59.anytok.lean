/-! ===== any token of the reference: what it changes ===== -/
/-- n' is n, but for the token, and the pool behind what is kept -/
def m_ag (n n' : w_M) : Prop := ∀ a b : Int, ¬ (a = 428 ∧ 21 ≤ b ∧ b ≤ 26) → ¬ (a = 440 ∧ n 428 17 ≤ b ∧ b < 140000) → n' a b = n a b
section TG
variable {d : Nat} {n n' n2 : w_M} {L p p' : Int} {W : Int → Int} {Q : Int → w_M → Prop}
theorem m_ag.rf : m_ag n n := fun _ _ _ _ => rfl
theorem m_ag.k17 (h : m_ag n n') : n' 428 17 = n 428 17 := h _ _ (by omega) (by omega)
theorem m_ag.tr (h : m_ag n n') (h2 : m_ag n' n2) : m_ag n n2 := fun a b q1 q2 => (h2 a b q1 (by rw [h.k17]; exact q2)).trans (h a b q1 q2)
theorem m_ag.up (h : m_ag n n') {k v : Int} (hk : 21 ≤ k ∧ k ≤ 26) : m_ag n (w_up n' 428 k v) := by
  intro a b q1 q2
  rw [← h a b q1 q2]
  unfold w_up
  rw [if_neg (fun z => q1 ⟨z.1, by rw [z.2]; exact hk⟩)]
theorem m_at_ag : m_ag n (m_at n p) := (m_ag.rf.up (by omega)).up (by omega)
theorem m_tx.ag {l : List Int} (h : m_tx n n' l) : m_ag n n' := fun a b q1 q2 => h.1 a b (by omega) q2
theorem v_m.ag (h : v_m n W L) (h2 : n 428 18 ≠ 440) (ht : m_ag n n') : v_m n' W L := by
  obtain ⟨k1, k2, k3, k4, k5, k6, k7, k8⟩ := h
  have hne : n 428 18 ≠ 428 := by
    intro e
    rw [e] at k3
    obtain ⟨q, hq⟩ := k3
    rw [s0_428] at hq
    cases hq
  have e1 : n' 428 18 = n 428 18 := ht _ _ (by omega) (by omega)
  have e2 : n' 428 19 = n 428 19 := ht _ _ (by omega) (by omega)
  have e3 : n' 428 20 = n 428 20 := ht _ _ (by omega) (by omega)
  refine ⟨k1, ?_, ?_, ?_, ?_, ?_, ?_, fun i q1 q2 => ?_⟩
  · rw [e1]; exact k2
  · rw [e1]; exact k3
  · rw [e2]; exact k4
  · rw [e3]; exact k5
  · rw [e1, e2]; exact k6
  · rw [e1]; exact k7
  · rw [e1, e2, ht _ _ (fun z => hne z.1) (fun z => h2 z.1)]; exact k8 i q1 q2
/-- whatever stands there: a row, or no row -/
theorem sp_tok_any (hw : m_st n W L p) (h2 : n 428 18 ≠ 440) (h7 : 0 ≤ n 428 17 ∧ n 428 17 + L ≤ 140000 + p) (hp' : p' = k_w W (L - p).toNat false p)
    (hQ : ∀ n', m_ag n n' → n' 428 23 = p' → (b_reg (W p') → m_row n' W L p' ∧ n' 428 21 = p' + g_len W (L - p').toNat p') → (¬ b_reg (W p') → n' 428 22 ≠ 1 ∧ n' 428 22 ≠ 2 ∧ n' 428 22 ≠ 3) → Q 0 n') : xc_m_token (d + 5) n Q := by
  have hk := k_w_r W (L - p).toNat false p
  have b0 : 0 ≤ p' ∧ p' ≤ L := by
    obtain ⟨k1, k2, k3, k4, k5⟩ := hw
    omega
  have hok := hw.1.1
  have hL := hw.2.1
  have hv2 := m_at_v (p := p') hw.1
  have st : m_st (m_at n p') W L p' := ⟨hv2, hL, m_at_21, b0.1, b0.2⟩
  have f2 : m_at n p' 428 18 ≠ 440 := by rw [m_at_o (by omega)]; exact h2
  have f7 : 0 ≤ m_at n p' 428 17 ∧ m_at n p' 428 17 + L ≤ 140000 + p' := by rw [m_at_o (by omega)]; omega
  -- a token that is no row
  have no : ∀ {n1 : w_M} {t : Int}, ¬ b_reg (W p') → m_ag (m_at n p') n1 → n1 428 23 = p' → (t ≠ 1 ∧ t ≠ 2 ∧ t ≠ 3) → Q 0 (w_up n1 428 22 t) := by
    intro n1 t z1 z2 z3 z4
    refine hQ _ ((m_at_ag.tr z2).up (by omega)) (by rw [w_up_nb (by decide)]; exact z3) (fun y => absurd y z1) (fun _ => ?_)
    rw [w_up_eq]
    exact z4
  have no2 : ∀ {t v : Int}, ¬ b_reg (W p') → (t ≠ 1 ∧ t ≠ 2 ∧ t ≠ 3) → Q 0 (w_up (w_up (m_at n p') 428 22 t) 428 21 v) := by
    intro t v z1 z4
    refine hQ _ ((m_at_ag.up (by omega)).up (by omega)) (by rw [w_up_nb (by decide), w_up_nb (by decide)]; exact m_at_23) (fun y => absurd y z1) (fun _ => ?_)
    rw [w_up_nb (by decide), w_up_eq]
    exact z4
  have tx23 : ∀ {n1 : w_M} {l : List Int}, m_tx (m_at n p') n1 l → n1 428 23 = p' := fun t => by rw [t.1 _ _ (by omega) (by omega)]; exact m_at_23
  refine sp_token (d := d + 1) hw hp' ?_
  by_cases q1 : W p' < 0
  · rw [if_pos q1]
    exact no (fun z => by have := z.1; omega) m_ag.rf m_at_23 (by decide)
  · have hin := (t_in hok (x := p') (by omega)).2
    rw [if_neg q1]
    by_cases q2 : b_reg (W p')
    · rw [if_pos q2]
      refine sp_row1 (d := d) hv2 hL m_at_21 b0.1 b0.2 (fun m' y1 y2 y3 => ?_)
      have ag : m_ag n m' := m_at_ag.tr (fun a b z1 z2 => y1 a b (fun z => z1 ⟨z.1, by have := z.2; omega⟩))
      refine hQ m' ag ?_ (fun _ => ⟨y3, y2⟩) (fun z => absurd q2 z)
      rw [y1 _ _ (by unfold m_rc; omega)]
      exact m_at_23
    · rw [if_neg q2]
      by_cases q3 : W p' = 47
      · rw [if_pos q3]
        refine sp_readName (d := d + 1) st f2 f7 hin (fun e l' y1 y2 y3 y4 m' t t4 => no q2 t.ag (tx23 t) ?_) (fun e l' y1 m' t t4 => no q2 t.ag (tx23 t) (by decide))
        split <;> decide
      · rw [if_neg q3]
        by_cases q4 : W p' = 40
        · rw [if_pos q4]
          refine sp_readString (d := d + 1) st f2 f7 hin (fun e l' y1 y2 y3 y4 m' t t4 => no q2 t.ag (tx23 t) ?_) (fun e l' y1 m' t => no q2 t.ag (tx23 t) (by decide))
          split <;> decide
        · rw [if_neg q4]
          by_cases q5 : W p' = 60
          · rw [if_pos q5]
            by_cases q6 : W (p' + 1) = 60
            · rw [if_pos q6]
              exact no2 q2 (by decide)
            · rw [if_neg q6]
              refine sp_readHex (d := d + 1) st f2 f7 hin (fun e l' y1 y2 y3 y4 m' t t4 => no q2 t.ag (tx23 t) ?_) (fun e l' y1 m' t => no q2 t.ag (tx23 t) (by decide))
              split <;> decide
          · rw [if_neg q5]
            by_cases q6 : W p' = 62
            · rw [if_pos q6]
              by_cases q7 : W (p' + 1) = 62
              · rw [if_pos q7]
                exact no2 q2 (by decide)
              · rw [if_neg q7]
                exact no q2 m_ag.rf m_at_23 (by decide)
            · rw [if_neg q6]
              by_cases q7 : W p' = 91
              · rw [if_pos q7]
                exact no2 q2 (by decide)
              · rw [if_neg q7]
                by_cases q8 : W p' = 93
                · rw [if_pos q8]
                  exact no2 q2 (by decide)
                · rw [if_neg q8]
                  exact no q2 m_ag.rf m_at_23 (by decide)
end TG
