/-! ===== strings of hexes ===== -/
/-- h: the half that waits, or -1; 1: wrong, 0: where it has closed; the bytes -/
def u_x (W : Int → Int) : Nat → Int → Int → List Int → Int × Int × List Int
  | 0, p, _, l => (1, p, l)
  | k + 1, p, h, l => if W p < 0 then (1, p, l) else if W p = 62 then (0, p + 1, if h < 0 then l else l ++ [h * 16]) else if h_x (W p) < 0 then (if b_w (W p) then u_x W k (p + 1) h l else (1, p, l)) else if h < 0 then u_x W k (p + 1) (h_x (W p)) l else u_x W k (p + 1) (-1) (l ++ [h * 16 + h_x (W p)])
theorem h_x_m : h_x (-1) = -1 := by decide
section TH
variable {d : Nat} {m0 n0 : w_M} {P L : Int} {W : Int → Int} {Q : Int → w_M → Prop}
/-- the class's -/
theorem sp_scanHex_17 (hv : v_c m0 P W L) (h2 : m0 P 2 ≠ 365) (h7 : 0 ≤ m0 359 7 ∧ m0 359 7 ≤ 200000) :
    ∀ (k : Nat) (p h : Int) (l : List Int) (m : w_M), 0 ≤ p → p ≤ L → L - p ≤ k → -1 ≤ h → h < 16 → l.length ≤ p → c_tx m0 m P l → m P 4 = m0 P 3 + p →
    (∀ e l', u_x W k p h l = (0, e, l') → 0 ≤ e → e ≤ L → l'.length ≤ e → ∀ m', c_tx m0 m' P l' → m' P 4 = m0 P 3 + e → Q 1 m') →
    (∀ e l', u_x W k p h l = (1, e, l') → ∀ m', c_tx m0 m' P l' → Q 0 m') →
    xp_ps_scanHex_17 (d + 1) P h m Q := by
  intro k
  have hP := hv.2.1
  have hok := hv.1
  have hb : 0 ≤ m0 P 3 ∧ m0 P 5 = m0 P 3 + L ∧ m0 P 3 + L ≤ 200000 := by
    obtain ⟨⟨v1, v2, v3⟩, h2, h3, h4, h4b, h5, h6, h7, h8, h9⟩ := hv
    omega
  have hP2 : P ≠ 365 := by rcases hP with rfl | rfl <;> decide
  induction k with
  | zero =>
    intro p h l m p0 p1 p2 g0 g1 pl ht hp h1 h0
    have e5 : m P 5 = m0 P 5 := ht.1 _ _ (by omega) (by omega)
    apply xr_ps_scanHex_17 hP
    rw [e5, if_neg (by omega)]
    exact h0 p l rfl m ht
  | succ k ih =>
    intro p h l m p0 p1 p2 g0 g1 pl ht hp h1 h0
    have eu : u_x W (k + 1) p h l = if W p < 0 then (1, p, l) else if W p = 62 then (0, p + 1, if h < 0 then l else l ++ [h * 16]) else if h_x (W p) < 0 then (if b_w (W p) then u_x W k (p + 1) h l else (1, p, l)) else if h < 0 then u_x W k (p + 1) (h_x (W p)) l else u_x W k (p + 1) (-1) (l ++ [h * 16 + h_x (W p)]) := rfl
    have e5 : m P 5 = m0 P 5 := ht.1 _ _ (by omega) (by omega)
    have e3 : m P 3 = m0 P 3 := ht.1 _ _ (by omega) (by omega)
    have hw := hv.tx h2 ht
    have hr := h_x_r (W p)
    apply xr_ps_scanHex_17 hP
    rw [e5]
    by_cases z : p < L
    · have hz := (hok.2.1 p p0 z).1
      rw [if_neg (by omega)] at eu
      rw [if_pos (by omega)]
      refine sp_ps_at hw (i := p) (by omega) ?_
      refine sp_c_hex ?_
      have e1 : w_32 (m P 4 + 1) = m0 P 3 + (p + 1) := by rw [hp, w_32_id (by omega) (by omega)]; omega
      rw [e1]
      have ht1 := ht.at4 hP (v := m0 P 3 + (p + 1))
      by_cases q1 : W p = 62
      · rw [if_pos q1]
        rw [if_pos q1] at eu
        by_cases q2 : h < 0
        · rw [if_pos q2]
          rw [if_pos q2] at eu
          exact h1 (p + 1) l eu (by omega) (by omega) (by omega) _ ht1 w_up_eq
        · rw [if_neg q2, w_32_id (by omega) (by omega)]
          rw [if_neg q2] at eu
          have el := t_len l (h * 16)
          exact sp_c_put hP ht1 h7 (by omega) (by omega) (by omega) (fun m' t1 t2 => h1 (p + 1) _ eu (by omega) (by omega) (by omega) m' t1 (by rw [t2, w_up_eq]))
      · rw [if_neg q1]
        rw [if_neg q1] at eu
        by_cases q2 : h_x (W p) < 0
        · rw [if_pos q2]
          rw [if_pos q2] at eu
          refine sp_c_isWhite ?_
          by_cases q3 : b_w (W p)
          · rw [if_pos q3] at eu
            rw [if_pos q3, if_neg (by decide)]
            apply xr_ps_scanHex_85 hP
            rw [if_pos q2, if_pos q2]
            exact ih (p + 1) h l _ (by omega) (by omega) (by omega) g0 g1 (by omega) ht1 w_up_eq (fun e l' y1 => h1 e l' (eu.trans y1)) (fun e l' y1 => h0 e l' (eu.trans y1))
          · rw [if_neg q3] at eu
            rw [if_neg q3, if_pos rfl]
            exact h0 p l eu _ ht1
        · rw [if_neg q2]
          rw [if_neg q2] at eu
          apply xr_ps_scanHex_85 hP
          rw [if_neg q2]
          by_cases q3 : h < 0
          · rw [if_pos q3] at eu
            rw [if_pos q3, if_neg q2]
            exact ih (p + 1) _ l _ (by omega) (by omega) (by omega) (by omega) (by omega) (by omega) ht1 w_up_eq (fun e l' y1 => h1 e l' (eu.trans y1)) (fun e l' y1 => h0 e l' (eu.trans y1))
          · rw [if_neg q3] at eu
            rw [if_neg q3, w_32_id (x := h * 16) (by omega) (by omega), w_32_id (by omega) (by omega)]
            have el := t_len l (h * 16 + h_x (W p))
            refine sp_c_put hP ht1 h7 (by omega) (by omega) (by omega) (fun m' t1 t2 => ?_)
            exact ih (p + 1) (-1) _ m' (by omega) (by omega) (by omega) (by decide) (by decide) (by omega) t1 (by rw [t2, w_up_eq]) (fun e l' y1 => h1 e l' (eu.trans y1)) (fun e l' y1 => h0 e l' (eu.trans y1))
    · have hz := hok.2.2 p (Or.inr (by omega))
      rw [if_neg (by omega)]
      rw [if_pos (by omega)] at eu
      exact h0 p l eu m ht
/-- the reference's -/
theorem sp_readHex_17 (hv : v_m n0 W L) (h2 : n0 428 18 ≠ 440) (hL : L ≤ 200000) {s : Int} (h7 : 0 ≤ n0 428 17 ∧ n0 428 17 + L ≤ 140000 + s) :
    ∀ (k : Nat) (p h : Int) (l : List Int) (n : w_M), 0 ≤ p → p ≤ L → L - p ≤ k → -1 ≤ h → h < 16 → l.length + s ≤ p → m_tx n0 n l → n 428 21 = p →
    (∀ e l', u_x W k p h l = (0, e, l') → 0 ≤ e → e ≤ L → l'.length + s ≤ e → ∀ n', m_tx n0 n' l' → n' 428 21 = e → Q 0 (w_up n' 428 22 (if 2000 < n' 428 26 then 11 else 5))) →
    (∀ e l', u_x W k p h l = (1, e, l') → ∀ n', m_tx n0 n' l' → Q 0 (w_up n' 428 22 10)) →
    xp_m_readHex_17 (d + 2) h n Q := by
  intro k
  have hok := hv.1
  have over : ∀ (p h : Int) (l : List Int) (n : w_M), 0 ≤ p → p ≤ L → W p < 0 → m_tx n0 n l → n 428 21 = p → Q 0 (w_up n 428 22 10) → xp_m_readHex_17 (d + 2) h n Q := by
    intro p h l n p0 p1 z ht hp h0
    have hw := hv.tx h2 ht
    have e1 := t_by_r hok p
    have e9 : W p = -1 := by omega
    apply xr_m_readHex_17
    refine sp_r_peek hw hp p0 (by omega) (by decide) (by decide) ?_
    rw [Int.add_zero, if_neg (by omega)]
    refine sp_r_peek hw hp p0 (by omega) (by decide) (by decide) ?_
    rw [Int.add_zero]
    refine sp_r_hex ?_
    rw [e9, h_x_m, if_pos (by decide)]
    refine sp_r_isBlank ?_
    rw [if_pos (show (if b_w (-1) then (1 : Int) else 0) = 0 by decide)]
    exact h0
  induction k with
  | zero =>
    intro p h l n p0 p1 p2 g0 g1 pl ht hp h1 h0
    have hz := hok.2.2 p (Or.inr (by omega))
    exact over p h l n p0 p1 (by omega) ht hp (h0 p l rfl n ht)
  | succ k ih =>
    intro p h l n p0 p1 p2 g0 g1 pl ht hp h1 h0
    have eu : u_x W (k + 1) p h l = if W p < 0 then (1, p, l) else if W p = 62 then (0, p + 1, if h < 0 then l else l ++ [h * 16]) else if h_x (W p) < 0 then (if b_w (W p) then u_x W k (p + 1) h l else (1, p, l)) else if h < 0 then u_x W k (p + 1) (h_x (W p)) l else u_x W k (p + 1) (-1) (l ++ [h * 16 + h_x (W p)]) := rfl
    have hw := hv.tx h2 ht
    have hr := h_x_r (W p)
    by_cases z : W p < 0
    · rw [if_pos z] at eu
      exact over p h l n p0 p1 z ht hp (h0 p l eu n ht)
    · rw [if_neg z] at eu
      have hin := (t_in hok (x := p) (by omega)).2
      have ht1 := ht.at21 (v := p + 1)
      apply xr_m_readHex_17
      refine sp_r_peek hw hp p0 (by omega) (by decide) (by decide) ?_
      rw [Int.add_zero]
      by_cases q1 : W p = 62
      · rw [if_pos q1, hp, w_32_id (x := p + 1) (by omega) (by omega)]
        rw [if_pos q1] at eu
        by_cases q2 : h < 0
        · rw [if_pos q2]
          rw [if_pos q2] at eu
          have fin := h1 (p + 1) l eu (by omega) (by omega) (by omega) _ ht1 w_up_eq
          rw [w_up_nb (by decide)] at fin
          by_cases q6 : 2000 < n 428 26
          · rw [if_pos q6]
            rw [if_pos q6] at fin
            exact fin
          · rw [if_neg q6]
            rw [if_neg q6] at fin
            exact fin
        · rw [if_neg q2, w_32_id (by omega) (by omega)]
          rw [if_neg q2] at eu
          have el := t_len l (h * 16)
          rw [show 16 * h = h * 16 by omega]
          refine sp_r_put ht1 ⟨h7.1, by omega⟩ (by omega) (by omega) (fun n' t1 t2 => ?_)
          have fin := h1 (p + 1) _ eu (by omega) (by omega) (by omega) n' t1 (by rw [t2, w_up_eq])
          by_cases q6 : 2000 < n' 428 26
          · rw [if_pos q6]
            rw [if_pos q6] at fin
            exact fin
          · rw [if_neg q6]
            rw [if_neg q6] at fin
            exact fin
      · rw [if_neg q1]
        rw [if_neg q1] at eu
        refine sp_r_peek hw hp p0 (by omega) (by decide) (by decide) ?_
        rw [Int.add_zero]
        refine sp_r_hex ?_
        by_cases q2 : h_x (W p) < 0
        · rw [if_pos q2]
          rw [if_pos q2] at eu
          refine sp_r_isBlank ?_
          by_cases q3 : b_w (W p)
          · rw [if_pos q3] at eu
            rw [if_pos q3, if_neg (by decide)]
            apply xr_m_readHex_56
            rw [if_pos q2, if_pos q2, hp, w_32_id (x := p + 1) (by omega) (by omega)]
            exact ih (p + 1) h l _ (by omega) (by omega) (by omega) g0 g1 (by omega) ht1 w_up_eq (fun e l' y1 => h1 e l' (eu.trans y1)) (fun e l' y1 => h0 e l' (eu.trans y1))
          · rw [if_neg q3] at eu
            rw [if_neg q3, if_pos rfl]
            exact h0 p l eu n ht
        · rw [if_neg q2]
          rw [if_neg q2] at eu
          apply xr_m_readHex_56
          rw [if_neg q2]
          by_cases q3 : h < 0
          · rw [if_pos q3] at eu
            rw [if_pos q3, if_neg q2, hp, w_32_id (x := p + 1) (by omega) (by omega)]
            exact ih (p + 1) _ l _ (by omega) (by omega) (by omega) (by omega) (by omega) (by omega) ht1 w_up_eq (fun e l' y1 => h1 e l' (eu.trans y1)) (fun e l' y1 => h0 e l' (eu.trans y1))
          · rw [if_neg q3] at eu
            rw [if_neg q3, w_32_id (x := 16 * h) (by omega) (by omega), w_32_id (by omega) (by omega), show 16 * h + h_x (W p) = h * 16 + h_x (W p) by omega]
            have el := t_len l (h * 16 + h_x (W p))
            refine sp_r_put ht ⟨h7.1, by omega⟩ (by omega) (by omega) (fun n' t1 t2 => ?_)
            rw [t2, hp, w_32_id (by omega) (by omega)]
            exact ih (p + 1) (-1) _ _ (by omega) (by omega) (by omega) (by decide) (by decide) (by omega) t1.at21 w_up_eq (fun e l' y1 => h1 e l' (eu.trans y1)) (fun e l' y1 => h0 e l' (eu.trans y1))
end TH
