/-! ===== round strings of the reference; strings of hexes ===== -/
section TQ
variable {d : Nat} {m0 n0 : w_M} {P L : Int} {W : Int → Int} {Q : Int → w_M → Prop}
theorem sp_esc_92 {c : Int} {n : w_M} (h : xp_m_escape_170 d c (e_c c) n Q) : xp_m_escape_92 d c n Q := by
  apply xr_m_escape_92
  by_cases q1 : c = 110
  · subst q1; exact h
  · rw [if_neg q1]
    by_cases q2 : c = 114
    · subst q2; exact h
    · rw [if_neg q2]
      by_cases q3 : c = 116
      · subst q3; exact h
      · rw [if_neg q3]
        by_cases q4 : c = 98
        · subst q4; exact h
        · rw [if_neg q4]
          by_cases q5 : c = 102
          · subst q5; exact h
          · rw [if_neg q5]
            by_cases q6 : c = 40
            · subst q6; exact h
            · rw [if_neg q6]
              by_cases q7 : c = 41
              · subst q7; exact h
              · rw [if_neg q7]
                by_cases q8 : c = 92
                · subst q8; exact h
                · rw [if_neg q8]
                  unfold e_c at h
                  rw [if_neg q6, if_neg q7, if_neg q8, if_neg q4, if_neg q5, if_neg q1, if_neg q2, if_neg q3] at h
                  exact h
theorem sp_esc_27 (hv : v_m n0 W L) (h2 : n0 428 18 ≠ 440) (hL : L ≤ 200000) {l : List Int} (h7 : 0 ≤ n0 428 17 ∧ n0 428 17 + l.length < 140000) :
    ∀ (k j : Nat) (p v : Int) (n : w_M), j + k = 3 → 0 ≤ v → ((j = 0 ∧ v = 0) ∨ (j = 1 ∧ v ≤ 7) ∨ (j = 2 ∧ v ≤ 63) ∨ (j = 3 ∧ v ≤ 511)) → 0 ≤ p → p ≤ L → m_tx n0 n l → n 428 21 = p →
    (∀ n', m_tx n0 n' (l ++ [(u_o W k p v).2 % 256]) → n' 428 21 = (u_o W k p v).1 → Q 0 n') → xp_m_escape_27 (d + 1) v j n Q := by
  intro k
  have hok := hv.1
  induction k with
  | zero =>
    intro j p v n hj v0 hjv p0 p1 ht hp hQ
    apply xr_m_escape_27
    rw [if_neg (by omega)]
    exact sp_r_put ht h7 (by omega) (by omega) (fun n' t1 t2 => hQ n' t1 (by rw [t2, hp]; rfl))
  | succ k ih =>
    intro j p v n hj v0 hjv p0 p1 ht hp hQ
    have eu : u_o W (k + 1) p v = if 48 ≤ W p ∧ W p ≤ 55 then u_o W k (p + 1) (v * 8 + (W p - 48)) else (p, v) := rfl
    have hw := hv.tx h2 ht
    apply xr_m_escape_27
    rw [if_pos (by omega)]
    refine sp_r_peek hw hp p0 (by omega) (by decide) (by decide) ?_
    rw [Int.add_zero]
    have stop : ¬ (48 ≤ W p ∧ W p ≤ 55) → xc_m_put1 (d + 1) (v % 256) n (fun r2 m2 => Q 0 m2) := by
      intro z
      rw [if_neg z] at eu
      rw [eu] at hQ
      exact sp_r_put ht h7 (by omega) (by omega) (fun n' t1 t2 => hQ n' t1 (by rw [t2, hp]))
    by_cases q1 : W p < 48
    · rw [if_pos q1]
      exact stop (by omega)
    · rw [if_neg q1]
      refine sp_r_peek hw hp p0 (by omega) (by decide) (by decide) ?_
      rw [Int.add_zero]
      by_cases q2 : 55 < W p
      · rw [if_pos q2]
        exact stop (by omega)
      · rw [if_neg q2]
        have z : 48 ≤ W p ∧ W p ≤ 55 := by omega
        have hin := t_in hok (x := p) (by omega)
        rw [if_pos z] at eu
        rw [eu] at hQ
        refine sp_r_peek hw hp p0 (by omega) (by decide) (by decide) ?_
        rw [Int.add_zero, hp, w_32_id (x := p + 1) (by omega) (by omega), w_32_id (x := 8 * v) (by omega) (by omega), w_32_id (x := 8 * v + W p) (by omega) (by omega), w_32_id (x := 8 * v + W p - 48) (by omega) (by omega), w_32_id (x := (j : Int) + 1) (by omega) (by omega), show (j : Int) + 1 = ((j + 1 : Nat) : Int) by omega, show 8 * v + W p - 48 = v * 8 + (W p - 48) by omega]
        exact ih (j + 1) (p + 1) _ _ (by omega) (by omega) (by omega) (by omega) (by omega) ht.at21 w_up_eq hQ
theorem sp_escape (hv : v_m n0 W L) (h2 : n0 428 18 ≠ 440) (hL : L ≤ 200000) {l : List Int} (h7 : 0 ≤ n0 428 17 ∧ n0 428 17 + l.length < 140000) {p : Int} {n : w_M} (p0 : 0 ≤ p) (p1 : p ≤ L) (ht : m_tx n0 n l) (hp : n 428 21 = p)
    (hQ : ∀ n', m_tx n0 n' (l ++ (u_e W p).2) → n' 428 21 = (u_e W p).1 → Q 0 n') : xc_m_escape (d + 2) n Q := by
  have hok := hv.1
  have hw := hv.tx h2 ht
  have er := e_c_r (W p)
  apply xr_m_escape
  refine sp_r_peek hw hp p0 (by omega) (by decide) (by decide) ?_
  rw [Int.add_zero]
  unfold u_e at hQ
  have other : ¬ (48 ≤ W p ∧ W p ≤ 55) → xp_m_escape_92 (d + 1) (W p) n Q := by
    intro z
    rw [if_neg z] at hQ
    apply sp_esc_92
    apply xr_m_escape_170
    by_cases q1 : e_c (W p) < 0
    · rw [if_neg (by omega)] at hQ
      rw [if_pos q1]
      by_cases q3 : W p = 13
      · rw [if_pos q3] at hQ ⊢
        rw [hp, w_32_id (x := p + 1) (by omega) (by omega), w_32_id (x := p + 2) (by omega) (by omega)]
        refine sp_r_peek hw hp p0 (by omega) (by decide) (by decide) ?_
        by_cases q4 : W (p + 1) = 10
        · rw [if_pos q4] at hQ ⊢
          refine hQ _ ?_ w_up_eq
          show m_tx n0 _ (l ++ [])
          rw [List.append_nil]
          exact ht.at21
        · rw [if_neg q4] at hQ ⊢
          refine hQ _ ?_ w_up_eq
          show m_tx n0 _ (l ++ [])
          rw [List.append_nil]
          exact ht.at21
      · rw [if_neg q3] at hQ ⊢
        by_cases q4 : W p = 10
        · rw [if_pos q4] at hQ ⊢
          rw [hp, w_32_id (x := p + 1) (by omega) (by omega)]
          refine hQ _ ?_ w_up_eq
          show m_tx n0 _ (l ++ [])
          rw [List.append_nil]
          exact ht.at21
        · rw [if_neg q4] at hQ ⊢
          refine hQ _ ?_ hp
          show m_tx n0 _ (l ++ [])
          rw [List.append_nil]
          exact ht
    · rw [if_pos (by omega)] at hQ
      rw [if_neg q1]
      refine sp_r_put ht h7 (by omega) (by omega) (fun n' t1 t2 => ?_)
      rw [t2, hp, w_32_id (by omega) (by omega)]
      exact hQ _ t1.at21 w_up_eq
  by_cases q0 : W p < 0
  · rw [if_pos q0]
    have e1 := t_by_r hok p
    have e9 : W p = -1 := by omega
    rw [e9, e_c_m] at hQ
    refine hQ _ ?_ hp
    show m_tx n0 _ (l ++ [])
    rw [List.append_nil]
    exact ht
  · rw [if_neg q0]
    by_cases q2 : W p < 48
    · rw [if_pos q2]
      exact other (by omega)
    · rw [if_neg q2]
      by_cases q3 : 55 < W p
      · rw [if_pos q3]
        exact other (by omega)
      · rw [if_neg q3]
        rw [e_c_d ⟨by omega, by omega⟩, if_neg (by decide), if_pos ⟨by omega, by omega⟩] at hQ
        exact sp_esc_27 hv h2 hL h7 3 0 p 0 n rfl (by decide) (Or.inl ⟨rfl, rfl⟩) p0 p1 ht hp hQ
/-- the reference's round string -/
theorem sp_readString_17 (hv : v_m n0 W L) (h2 : n0 428 18 ≠ 440) (hL : L ≤ 200000) {s : Int} (h7 : 0 ≤ n0 428 17 ∧ n0 428 17 + L ≤ 140000 + s) :
    ∀ (k : Nat) (p D : Int) (l : List Int) (n : w_M), 0 ≤ p → p ≤ L → L - p ≤ k → 1 ≤ D → D ≤ p + 1 → l.length + s ≤ p → m_tx n0 n l → n 428 21 = p →
    (∀ e l', u_r W k p D l = (0, e, l') → 0 ≤ e → e ≤ L → l'.length + s ≤ e → ∀ n', m_tx n0 n' l' → n' 428 21 = e → Q 0 (w_up n' 428 22 (if 2000 < n' 428 26 then 11 else 5))) →
    (∀ e l', u_r W k p D l = (1, e, l') → ∀ n', m_tx n0 n' l' → Q 0 (w_up n' 428 22 10)) →
    xp_m_readString_17 (d + 2) D n Q := by
  intro k
  have hok := hv.1
  induction k with
  | zero =>
    intro p D l n p0 p1 p2 D0 D1 pl ht hp h1 h0
    apply xr_m_readString_17
    rw [if_pos (by omega)]
    refine sp_r_peek (hv.tx h2 ht) hp p0 (by omega) (by decide) (by decide) ?_
    have hz := hok.2.2 p (Or.inr (by omega))
    rw [Int.add_zero, if_pos (by omega)]
    exact h0 p l rfl n ht
  | succ k ih =>
    intro p D l n p0 p1 p2 D0 D1 pl ht hp h1 h0
    have eu : u_r W (k + 1) p D l = if W p < 0 then (1, p, l) else if W p = 92 then u_r W k (u_e W (p + 1)).1 D (l ++ (u_e W (p + 1)).2) else if W p = 13 then u_r W k (if W (p + 1) = 10 then p + 2 else p + 1) D (l ++ [10]) else if W p = 41 ∧ D = 1 then (0, p + 1, l) else u_r W k (p + 1) (if W p = 40 then D + 1 else if W p = 41 then D - 1 else D) (l ++ [W p]) := rfl
    have hw := hv.tx h2 ht
    have hc := t_by_r hok p
    apply xr_m_readString_17
    rw [if_pos (by omega)]
    refine sp_r_peek hw hp p0 (by omega) (by decide) (by decide) ?_
    rw [Int.add_zero]
    by_cases z : W p < 0
    · rw [if_pos z]
      rw [if_pos z] at eu
      exact h0 p l eu n ht
    · rw [if_neg z]
      rw [if_neg z] at eu
      have hin := (t_in hok (x := p) (by omega)).2
      have ht1 := ht.at21 (v := p + 1)
      have el := t_len l (W p)
      rw [hp, w_32_id (x := p + 1) (by omega) (by omega)]
      by_cases q3 : W p = 40
      · rw [if_pos q3]
        rw [if_neg (by omega), if_neg (by omega), if_neg (by omega), if_pos q3] at eu
        refine sp_r_put ht1 ⟨h7.1, by omega⟩ (by omega) (by omega) (fun n' t1 t2 => ?_)
        rw [w_32_id (by omega) (by omega)]
        exact ih (p + 1) (D + 1) _ n' (by omega) (by omega) (by omega) (by omega) (by omega) (by omega) t1 (by rw [t2, w_up_eq]) (fun e l' y1 => h1 e l' (eu.trans y1)) (fun e l' y1 => h0 e l' (eu.trans y1))
      · rw [if_neg q3]
        by_cases q4 : W p = 41
        · rw [if_pos q4, w_32_id (x := D + -1) (by omega) (by omega)]
          rw [if_neg (by omega), if_neg (by omega)] at eu
          by_cases q5 : D = 1
          · rw [if_pos ⟨q4, q5⟩] at eu
            rw [if_neg (by omega)]
            apply xr_m_readString_17
            rw [if_neg (by omega)]
            have fin := h1 (p + 1) l eu (by omega) (by omega) (by omega) _ ht1 w_up_eq
            by_cases q6 : 2000 < w_up n 428 21 (p + 1) 428 26
            · rw [if_pos q6]
              rw [if_pos q6] at fin
              exact fin
            · rw [if_neg q6]
              rw [if_neg q6] at fin
              exact fin
          · rw [if_neg (fun y => q5 y.2), if_neg q3, if_pos q4] at eu
            rw [if_pos (by omega)]
            refine sp_r_put ht1 ⟨h7.1, by omega⟩ (by omega) (by omega) (fun n' t1 t2 => ?_)
            rw [show D + -1 = D - 1 by omega]
            exact ih (p + 1) (D - 1) _ n' (by omega) (by omega) (by omega) (by omega) (by omega) (by omega) t1 (by rw [t2, w_up_eq]) (fun e l' y1 => h1 e l' (eu.trans y1)) (fun e l' y1 => h0 e l' (eu.trans y1))
        · rw [if_neg q4]
          by_cases q2 : W p = 13
          · rw [if_pos q2]
            rw [if_neg (by omega), if_pos q2] at eu
            refine sp_r_peek (hv.tx h2 ht1) w_up_eq (by omega) (by omega) (by decide) (by decide) ?_
            rw [Int.add_zero]
            have el := t_len l 10
            by_cases q5 : W (p + 1) = 10
            · have hin2 := t_in hok (x := p + 1) (by omega)
              rw [if_pos q5]
              rw [if_pos q5] at eu
              rw [w_up_up, w_32_id (by omega) (by omega)]
              refine sp_r_put ht.at21 ⟨h7.1, by omega⟩ (by decide) (by decide) (fun n' t1 t2 => ?_)
              exact ih (p + 2) D _ n' (by omega) (by omega) (by omega) D0 (by omega) (by omega) t1 (by rw [t2, w_up_eq]; omega) (fun e l' y1 => h1 e l' (eu.trans y1)) (fun e l' y1 => h0 e l' (eu.trans y1))
            · rw [if_neg q5]
              rw [if_neg q5] at eu
              rw [w_up_up, w_32_id (by omega) (by omega)]
              refine sp_r_put ht.at21 ⟨h7.1, by omega⟩ (by decide) (by decide) (fun n' t1 t2 => ?_)
              exact ih (p + 1) D _ n' (by omega) (by omega) (by omega) D0 (by omega) (by omega) t1 (by rw [t2, w_up_eq]; try omega) (fun e l' y1 => h1 e l' (eu.trans y1)) (fun e l' y1 => h0 e l' (eu.trans y1))
          · rw [if_neg q2]
            by_cases q1 : W p = 92
            · rw [if_pos q1]
              rw [if_pos q1] at eu
              have hr := u_e_r hok (p := p + 1) (by omega) (by omega)
              refine sp_escape hv h2 hL (p := p + 1) ⟨h7.1, by omega⟩ (by omega) (by omega) ht1 w_up_eq (fun n' t1 t2 => ?_)
              have el := t_app2 l (u_e W (p + 1)).2
              exact ih _ D _ n' (by omega) (by omega) (by omega) D0 (by omega) (by omega) t1 t2 (fun e l' y1 => h1 e l' (eu.trans y1)) (fun e l' y1 => h0 e l' (eu.trans y1))
            · rw [if_neg q1]
              rw [if_neg q1, if_neg q2, if_neg (fun y => q4 y.1), if_neg q3, if_neg q4] at eu
              refine sp_r_put ht1 ⟨h7.1, by omega⟩ (by omega) (by omega) (fun n' t1 t2 => ?_)
              exact ih (p + 1) D _ n' (by omega) (by omega) (by omega) D0 (by omega) (by omega) t1 (by rw [t2, w_up_eq]) (fun e l' y1 => h1 e l' (eu.trans y1)) (fun e l' y1 => h0 e l' (eu.trans y1))
end TQ
