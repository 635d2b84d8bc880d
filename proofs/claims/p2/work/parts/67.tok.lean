/-! ===== a token of the reference, told ===== -/
/-- the bytes l stand behind what is kept -/
def m_bt (n : w_M) (l : List Int) : Prop := n 428 26 = l.length ∧ ∀ i : Nat, i < l.length → n 440 (n 428 17 + i) = w_8 (l.getD i 0)
/-- the token that stands at p was read -/
def m_tk (n : w_M) (W : Int → Int) (L p : Int) : Prop := n 428 23 = p ∧ (
  (W p < 0 ∧ n 428 22 = 0) ∨
  (b_reg (W p) ∧ m_row n W L p ∧ n 428 21 = p + g_len W (L - p).toNat p) ∨
  (W p = 47 ∧ ((∃ e l, u_n W (L - (p + 1)).toNat (p + 1) [] = (1, e, l) ∧ n 428 22 = 10) ∨ (∃ e l, u_n W (L - (p + 1)).toNat (p + 1) [] = (0, e, l) ∧ p + 1 ≤ e ∧ e ≤ L ∧ l.length + (p + 1) ≤ e ∧ m_bt n l ∧ n 428 21 = e ∧ n 428 22 = if 60 < n 428 26 then 11 else 4))) ∨
  ((W p = 40 ∨ (W p = 60 ∧ W (p + 1) ≠ 60)) ∧ ((∃ e l, u_s W L p = (1, e, l) ∧ n 428 22 = 10) ∨ (∃ e l, u_s W L p = (0, e, l) ∧ 0 ≤ e ∧ e ≤ L ∧ l.length + (p + 1) ≤ e ∧ m_bt n l ∧ n 428 21 = e ∧ n 428 22 = if 2000 < n 428 26 then 11 else 5))) ∨
  (W p = 60 ∧ W (p + 1) = 60 ∧ n 428 22 = 8 ∧ n 428 21 = p + 2) ∨
  (W p = 62 ∧ W (p + 1) = 62 ∧ n 428 22 = 9 ∧ n 428 21 = p + 2) ∨
  (W p = 91 ∧ n 428 22 = 6 ∧ n 428 21 = p + 1) ∨
  (W p = 93 ∧ n 428 22 = 7 ∧ n 428 21 = p + 1) ∨
  (n 428 22 = 10 ∧ 0 ≤ W p ∧ ¬ b_reg (W p) ∧ W p ≠ 47 ∧ W p ≠ 40 ∧ W p ≠ 60 ∧ ¬ (W p = 62 ∧ W (p + 1) = 62) ∧ W p ≠ 91 ∧ W p ≠ 93))
section TG2
variable {d : Nat} {n n' n2 : w_M} {L p p' : Int} {W : Int → Int} {Q : Int → w_M → Prop}
theorem m_tx.bt {n0 : w_M} {l : List Int} (h : m_tx n0 n l) {v : Int} : m_bt (w_up n 428 22 v) l := by
  obtain ⟨h1, h2, h3⟩ := h
  have e7 : n 428 17 = n0 428 17 := h1 _ _ (by omega) (by omega)
  refine ⟨by rw [w_up_nb (by decide)]; exact h2, fun i hi => ?_⟩
  rw [w_up_ne (by decide), w_up_nb (by decide), e7]
  exact h3 i hi
theorem sp_tok (hw : m_st n W L p) (h2 : n 428 18 ≠ 440) (h7 : 0 ≤ n 428 17 ∧ n 428 17 + L ≤ 140000 + p) (hp' : p' = k_w W (L - p).toNat false p)
    (hQ : ∀ n', m_ag n n' → m_tk n' W L p' → Q 0 n') : xc_m_token (d + 5) n Q := by
  have hk := k_w_r W (L - p).toNat false p
  have b0 : 0 ≤ p' ∧ p' ≤ L := by
    obtain ⟨k1, k2, k3, k4, k5⟩ := hw
    omega
  have hok := hw.1.1
  have hL := hw.2.1
  have hv2 := m_at_v (p := p') hw.1
  have st : m_st (m_at n p') W L p' := ⟨hv2, hL, m_at_21, b0.1, b0.2⟩
  have f2 : m_at n p' 428 18 ≠ 440 := by rw [m_at_o (by omega)]; exact h2
  have f7 : 0 ≤ m_at n p' 428 17 ∧ m_at n p' 428 17 + L ≤ 140000 + p' := by rw [m_at_o (by omega)]; omega
  have tx23 : ∀ {n1 : w_M} {l : List Int}, m_tx (m_at n p') n1 l → n1 428 23 = p' := fun t => by rw [t.1 _ _ (by omega) (by omega)]; exact m_at_23
  have up : ∀ {n1 : w_M} {t : Int}, m_ag (m_at n p') n1 → m_ag n (w_up n1 428 22 t) := fun t => (m_at_ag.tr t).up (by omega)
  have up2 : ∀ {t v : Int}, m_ag n (w_up (w_up (m_at n p') 428 22 t) 428 21 v) := fun {t v} => (m_at_ag.up (by omega)).up (by omega)
  have at23 : ∀ {t : Int}, w_up (m_at n p') 428 22 t 428 23 = p' := fun {t} => by rw [w_up_nb (by decide)]; exact m_at_23
  have at23' : ∀ {t v : Int}, w_up (w_up (m_at n p') 428 22 t) 428 21 v 428 23 = p' := fun {t v} => by rw [w_up_nb (by decide)]; exact at23
  have at22 : ∀ {t v : Int}, w_up (w_up (m_at n p') 428 22 t) 428 21 v 428 22 = t := fun {t v} => by rw [w_up_nb (by decide), w_up_eq]
  refine sp_token (d := d + 1) hw hp' ?_
  by_cases q1 : W p' < 0
  · rw [if_pos q1]
    exact hQ _ (up m_ag.rf) ⟨at23, Or.inl ⟨q1, w_up_eq⟩⟩
  · have hin := (t_in hok (x := p') (by omega)).2
    rw [if_neg q1]
    by_cases q2 : b_reg (W p')
    · rw [if_pos q2]
      refine sp_row1 (d := d) hv2 hL m_at_21 b0.1 b0.2 (fun m' y1 y2 y3 => ?_)
      have ag : m_ag n m' := m_at_ag.tr (fun a b z1 z2 => y1 a b (fun z => z1 ⟨z.1, by have := z.2; omega⟩))
      refine hQ m' ag ⟨?_, Or.inr (Or.inl ⟨q2, y3, y2⟩)⟩
      rw [y1 _ _ (by unfold m_rc; omega)]
      exact m_at_23
    · rw [if_neg q2]
      have tx23' : ∀ {n1 : w_M} {l : List Int} {t : Int}, m_tx (m_at n p') n1 l → w_up n1 428 22 t 428 23 = p' := fun t => by rw [w_up_nb (by decide)]; exact tx23 t
      by_cases q3 : W p' = 47
      · rw [if_pos q3]
        refine sp_readName (d := d + 1) st f2 f7 hin (fun e l' y1 y2 y3 y4 m' t t4 => ?_) (fun e l' y1 m' t t4 => ?_)
        · refine hQ _ (up t.ag) ⟨tx23' t, Or.inr (Or.inr (Or.inl ⟨q3, Or.inr ⟨e, l', y1, y2, y3, by omega, t.bt, by rw [w_up_nb (by decide)]; exact t4, ?_⟩⟩))⟩
          rw [w_up_eq, w_up_nb (by decide), t.2.1]
        · exact hQ _ (up t.ag) ⟨tx23' t, Or.inr (Or.inr (Or.inl ⟨q3, Or.inl ⟨e, l', y1, w_up_eq⟩⟩))⟩
      · rw [if_neg q3]
        have str : (W p' = 40 ∨ (W p' = 60 ∧ W (p' + 1) ≠ 60)) → (∀ e l', u_s W L p' = (0, e, l') → 0 ≤ e → e ≤ L → l'.length + (p' + 1) ≤ e → ∀ n1, m_tx (m_at n p') n1 l' → n1 428 21 = e → Q 0 (w_up n1 428 22 (if 2000 < n1 428 26 then 11 else 5))) ∧ (∀ e l', u_s W L p' = (1, e, l') → ∀ n1, m_tx (m_at n p') n1 l' → Q 0 (w_up n1 428 22 10)) := by
          intro z
          refine ⟨fun e l' y1 y2 y3 y4 n1 t t4 => ?_, fun e l' y1 n1 t => ?_⟩
          · refine hQ _ (up t.ag) ⟨tx23' t, Or.inr (Or.inr (Or.inr (Or.inl ⟨z, Or.inr ⟨e, l', y1, y2, y3, y4, t.bt, by rw [w_up_nb (by decide)]; exact t4, ?_⟩⟩)))⟩
            rw [w_up_eq, w_up_nb (by decide)]
          · exact hQ _ (up t.ag) ⟨tx23' t, Or.inr (Or.inr (Or.inr (Or.inl ⟨z, Or.inl ⟨e, l', y1, w_up_eq⟩⟩)))⟩
        by_cases q4 : W p' = 40
        · rw [if_pos q4]
          have es : u_s W L p' = u_r W (L - (p' + 1)).toNat (p' + 1) 1 [] := if_pos q4
          obtain ⟨s1, s2⟩ := str (Or.inl q4)
          rw [es] at s1 s2
          exact sp_readString (d := d + 1) st f2 f7 hin s1 s2
        · rw [if_neg q4]
          by_cases q5 : W p' = 60
          · rw [if_pos q5]
            by_cases q6 : W (p' + 1) = 60
            · rw [if_pos q6]
              exact hQ _ up2 ⟨at23', Or.inr (Or.inr (Or.inr (Or.inr (Or.inl ⟨q5, q6, at22, w_up_eq⟩))))⟩
            · rw [if_neg q6]
              have es : u_s W L p' = u_x W (L - (p' + 1)).toNat (p' + 1) (-1) [] := if_neg q4
              obtain ⟨s1, s2⟩ := str (Or.inr ⟨q5, q6⟩)
              rw [es] at s1 s2
              exact sp_readHex (d := d + 1) st f2 f7 hin s1 s2
          · rw [if_neg q5]
            by_cases q6 : W p' = 62
            · rw [if_pos q6]
              by_cases q7 : W (p' + 1) = 62
              · rw [if_pos q7]
                exact hQ _ up2 ⟨at23', Or.inr (Or.inr (Or.inr (Or.inr (Or.inr (Or.inl ⟨q6, q7, at22, w_up_eq⟩)))))⟩
              · rw [if_neg q7]
                exact hQ _ (up m_ag.rf) ⟨at23, Or.inr (Or.inr (Or.inr (Or.inr (Or.inr (Or.inr (Or.inr (Or.inr ⟨w_up_eq, by omega, q2, q3, q4, q5, fun z => q7 z.2, by omega, by omega⟩)))))))⟩
            · rw [if_neg q6]
              by_cases q7 : W p' = 91
              · rw [if_pos q7]
                exact hQ _ up2 ⟨at23', Or.inr (Or.inr (Or.inr (Or.inr (Or.inr (Or.inr (Or.inl ⟨q7, at22, w_up_eq⟩))))))⟩
              · rw [if_neg q7]
                by_cases q8 : W p' = 93
                · rw [if_pos q8]
                  exact hQ _ up2 ⟨at23', Or.inr (Or.inr (Or.inr (Or.inr (Or.inr (Or.inr (Or.inr (Or.inl ⟨q8, at22, w_up_eq⟩)))))))⟩
                · rw [if_neg q8]
                  exact hQ _ (up m_ag.rf) ⟨at23, Or.inr (Or.inr (Or.inr (Or.inr (Or.inr (Or.inr (Or.inr (Or.inr ⟨w_up_eq, by omega, q2, q3, q4, q5, fun z => q6 z.1, q7, q8⟩)))))))⟩
end TG2
