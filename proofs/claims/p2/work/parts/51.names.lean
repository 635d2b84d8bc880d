/-! ===== bytes that are scanned; names ===== -/
theorem w_8_m {c : Int} (h0 : 0 ≤ c) (h1 : c < 256) : w_8 c % 256 = c := by
  unfold w_8
  rw [Int.bmod_def]
  split <;> omega
def h_x (c : Int) : Int := if b_dig c then c - 48 else if 65 ≤ c ∧ c ≤ 70 then c - 55 else if 97 ≤ c ∧ c ≤ 102 then c - 87 else -1
theorem h_x_r (c : Int) : -1 ≤ h_x c ∧ h_x c < 16 := by
  unfold h_x
  split
  · rename_i z; have := z.1; have := z.2; omega
  · split
    · omega
    · split <;> omega
/-- the class's text: l has been scanned since m0 -/
def c_tx (m0 m : w_M) (P : Int) (l : List Int) : Prop := (∀ a b : Int, ¬ (a = P ∧ (b = 4 ∨ b = 17)) → ¬ (a = 365 ∧ m0 359 7 ≤ b) → m a b = m0 a b) ∧ m P 17 = l.length ∧ ∀ i : Nat, i < l.length → i < 2000 → m0 359 7 + i < 108612 → m 365 (m0 359 7 + i) = w_8 (l.getD i 0)
/-- the reference's -/
def m_tx (n0 n : w_M) (l : List Int) : Prop := (∀ a b : Int, ¬ (a = 428 ∧ (b = 21 ∨ b = 22 ∨ b = 26)) → ¬ (a = 440 ∧ n0 428 17 ≤ b ∧ b < 140000) → n a b = n0 a b) ∧ n 428 26 = l.length ∧ ∀ i : Nat, i < l.length → n 440 (n0 428 17 + i) = w_8 (l.getD i 0)
theorem t_app (l : List Int) (c : Int) (i : Nat) (h : i < (l ++ [c]).length) : (i < l.length ∧ (l ++ [c]).getD i 0 = l.getD i 0) ∨ (i = l.length ∧ (l ++ [c]).getD i 0 = c) := by
  rw [List.length_append] at h
  have h : i < l.length + 1 := h
  rw [List.getD_eq_getElem?_getD, List.getD_eq_getElem?_getD]
  by_cases z : i < l.length
  · left
    rw [List.getElem?_append_left z]
    exact ⟨z, rfl⟩
  · right
    have e : i = l.length := by omega
    rw [e, List.getElem?_append_right (Nat.le_refl _), Nat.sub_self]
    exact ⟨rfl, rfl⟩
theorem t_len (l : List Int) (c : Int) : (((l ++ [c]).length : Nat) : Int) = (l.length : Int) + 1 := by
  rw [List.length_append]
  show ((l.length + 1 : Nat) : Int) = _
  omega
section TX
variable {d : Nat} {m0 m n0 n : w_M} {P L p c : Int} {W : Int → Int} {l : List Int} {Q : Int → w_M → Prop}
theorem sp_c_hex (h : Q (h_x c) m) : xc_ps_hex (d + 1) c m Q := by
  apply xr_ps_hex
  unfold h_x at h
  have key : ¬ b_dig c → xp_ps_hex_17 d c m Q := by
    intro z
    rw [if_neg z] at h
    apply xr_ps_hex_17
    by_cases q1 : c < 65
    · rw [if_neg (by omega), if_neg (by omega)] at h
      rw [if_pos q1, if_pos (by omega)]
      exact h
    · rw [if_neg q1]
      by_cases q2 : 70 < c
      · rw [if_neg (by omega)] at h
        rw [if_pos q2]
        by_cases q3 : c < 97
        · rw [if_neg (by omega)] at h
          rw [if_pos q3]
          exact h
        · rw [if_neg q3]
          by_cases q4 : 102 < c
          · rw [if_neg (by omega)] at h
            rw [if_pos q4]
            exact h
          · rw [if_pos (by omega)] at h
            rw [if_neg q4, w_32_id (x := c - 97) (by omega) (by omega), w_32_id (by omega) (by omega), show c - 97 + 10 = c - 87 by omega]
            exact h
      · rw [if_pos (by omega)] at h
        rw [if_neg q2, w_32_id (x := c - 65) (by omega) (by omega), w_32_id (by omega) (by omega), show c - 65 + 10 = c - 55 by omega]
        exact h
  by_cases q1 : c < 48
  · rw [if_pos q1]; exact key (fun z => by have := z.1; omega)
  · rw [if_neg q1]
    by_cases q2 : 57 < c
    · rw [if_pos q2]; exact key (fun z => by have := z.2; omega)
    · rw [if_neg q2, w_32_id (by omega) (by omega)]
      rw [if_pos ⟨by omega, by omega⟩] at h
      exact h
theorem sp_r_hex (h : Q (h_x c) n) : xc_m_hexOf (d + 2) c n Q := by
  apply xr_m_hexOf
  refine sp_r_isDigit ?_
  unfold h_x at h
  by_cases z : b_dig c
  · rw [if_pos z] at h
    have z1 := z.1
    have z2 := z.2
    rw [if_pos z, if_neg (by decide), w_32_id (by omega) (by omega)]
    exact h
  · rw [if_neg z] at h
    rw [if_neg z, if_pos rfl]
    by_cases q3 : c < 97
    · rw [if_pos q3]
      by_cases q1 : c < 65
      · rw [if_neg (by omega), if_neg (by omega)] at h
        rw [if_pos q1]
        exact h
      · rw [if_neg q1]
        by_cases q2 : 70 < c
        · rw [if_neg (by omega), if_neg (by omega)] at h
          rw [if_pos q2]
          exact h
        · rw [if_pos (by omega)] at h
          rw [if_neg q2, w_32_id (x := c - 65) (by omega) (by omega), w_32_id (by omega) (by omega), show c - 65 + 10 = c - 55 by omega]
          exact h
    · rw [if_neg q3]
      by_cases q4 : 102 < c
      · rw [if_neg (by omega), if_neg (by omega)] at h
        rw [if_pos q4, if_neg (by omega), if_pos (by omega)]
        exact h
      · rw [if_neg (by omega), if_pos (by omega)] at h
        rw [if_neg q4, w_32_id (x := c - 97) (by omega) (by omega), w_32_id (by omega) (by omega), show c - 97 + 10 = c - 87 by omega]
        exact h
theorem c_tx.at4 (h : c_tx m0 m P l) (hP : w_isP P) {v : Int} : c_tx m0 (w_up m P 4 v) P l := by
  obtain ⟨h1, h2, h3⟩ := h
  have hne : (365 : Int) ≠ P := by rcases hP with rfl | rfl <;> decide
  refine ⟨fun a b q1 q2 => ?_, by rw [w_up_nb (by decide)]; exact h2, fun i i1 i2 i3 => by rw [w_up_ne hne]; exact h3 i i1 i2 i3⟩
  rw [← h1 a b q1 q2]
  unfold w_up
  rw [if_neg (by omega)]
theorem sp_c_put (hP : w_isP P) (ht : c_tx m0 m P l) (h7 : 0 ≤ m0 359 7 ∧ m0 359 7 ≤ 200000) (hl : l.length ≤ 200000) (hc0 : 0 ≤ c) (hc1 : c < 256) (hQ : ∀ m', c_tx m0 m' P (l ++ [c]) → m' P 4 = m P 4 → Q 0 m') : xc_ps_put (d + 1) P c m Q := by
  apply xr_ps_put hP
  obtain ⟨h1, h2, h3⟩ := ht
  obtain ⟨K, hK⟩ : ∃ K : Int, K = (l.length : Int) := ⟨_, rfl⟩
  have tl : (((l ++ [c]).length : Nat) : Int) = K + 1 := by rw [t_len, hK]
  rw [← hK] at h2
  have hP2 : P ≠ 359 ∧ (365 : Int) ≠ P ∧ P ≠ 365 := by rcases hP with rfl | rfl <;> decide
  have e7 : m 359 7 = m0 359 7 := h1 _ _ (by omega) (by omega)
  have ek : w_32 (K + 1) = K + 1 := w_32_id (by omega) (by omega)
  rw [e7, h2, ek, w_32_id (x := m0 359 7 + K) (by omega) (by omega)]
  have no : ¬ (K < 2000 ∧ m0 359 7 + K < 108612) → Q 0 (w_up m P 17 (K + 1)) := by
    intro z
    refine hQ _ ⟨fun a b q1 q2 => ?_, ?_, fun i i1 i2 i3 => ?_⟩ (w_up_nb (by decide))
    · rw [← h1 a b q1 q2]
      unfold w_up
      rw [if_neg (by omega)]
    · rw [w_up_eq, tl]
    · rw [w_up_ne hP2.2.1]
      rcases t_app l c i i1 with ⟨y1, y2⟩ | ⟨y1, y2⟩
      · rw [y2]; exact h3 i y1 i2 i3
      · exact absurd ⟨by omega, by omega⟩ z
  rcases Int.lt_or_le K 2000 with q1 | q1
  · rw [if_pos q1, if_neg (by omega)]
    rcases Int.lt_or_le (m0 359 7 + K) 108612 with q2 | q2
    · rw [if_pos q2, w_8_8]
      refine ⟨⟨by omega, q2⟩, ?_⟩
      refine hQ _ ⟨fun a b q1 q2 => ?_, ?_, fun i i1 i2 i3 => ?_⟩ ?_
      · rw [← h1 a b q1 q2]
        unfold w_up
        rw [if_neg (by omega), if_neg (by omega)]
      · rw [w_up_eq, tl]
      · rw [w_up_ne hP2.2.1]
        rcases t_app l c i i1 with ⟨y1, y2⟩ | ⟨y1, y2⟩
        · rw [y2, w_up_nb (by omega)]; exact h3 i y1 i2 i3
        · rw [y2, y1, ← hK, w_up_eq]
      · rw [w_up_nb (by decide), w_up_ne hP2.2.2]
    · rw [if_neg (by omega)]
      exact no (fun z => by omega)
  · rw [if_neg (by omega)]
    exact no (fun z => by omega)
theorem m_tx.at21 (h : m_tx n0 n l) {v : Int} : m_tx n0 (w_up n 428 21 v) l := by
  obtain ⟨h1, h2, h3⟩ := h
  refine ⟨fun a b q1 q2 => ?_, by rw [w_up_nb (by decide)]; exact h2, fun i i1 => by rw [w_up_ne (by decide)]; exact h3 i i1⟩
  rw [← h1 a b q1 q2]
  unfold w_up
  rw [if_neg (by omega)]
theorem sp_r_put (ht : m_tx n0 n l) (h7 : 0 ≤ n0 428 17 ∧ n0 428 17 + l.length < 140000) (hc0 : 0 ≤ c) (hc1 : c < 256) (hQ : ∀ n', m_tx n0 n' (l ++ [c]) → n' 428 21 = n 428 21 → Q 0 n') : xc_m_put1 (d + 1) c n Q := by
  apply xr_m_put1
  obtain ⟨h1, h2, h3⟩ := ht
  have e7 : n 428 17 = n0 428 17 := h1 _ _ (by omega) (by omega)
  rw [e7, h2, w_32_id (x := (l.length : Int) + 1) (by omega) (by omega), w_32_id (x := n0 428 17 + l.length) (by omega) (by omega), w_8_8]
  refine ⟨⟨by omega, by omega⟩, ?_⟩
  refine hQ _ ⟨fun a b q1 q2 => ?_, ?_, fun i i1 => ?_⟩ ?_
  · rw [← h1 a b q1 q2]
    unfold w_up
    rw [if_neg (by omega), if_neg (by omega)]
  · rw [w_up_eq, t_len]
  · rw [w_up_ne (by decide)]
    rcases t_app l c i i1 with ⟨y1, y2⟩ | ⟨y1, y2⟩
    · rw [y2, w_up_nb (by omega)]; exact h3 i y1
    · rw [y2, y1, w_up_eq]
  · rw [w_up_nb (by decide), w_up_ne (by decide)]
end TX
/-- a name's bytes from p on: 1 is wrong, 0 ends; where; the bytes -/
def u_v (W : Int → Int) (p : Int) : Int := if h_x (W (p + 1)) < 0 ∨ h_x (W (p + 2)) < 0 then 0 else h_x (W (p + 1)) * 16 + h_x (W (p + 2))
def u_n (W : Int → Int) : Nat → Int → List Int → Int × Int × List Int
  | 0, p, l => (0, p, l)
  | k + 1, p, l => if b_reg (W p) then (if W p = 35 then (if u_v W p = 0 then (1, p, l) else u_n W k (p + 3) (l ++ [u_v W p])) else u_n W k (p + 1) (l ++ [W p])) else (0, p, l)
section TN
variable {d : Nat} {m0 n0 : w_M} {P L q : Int} {W : Int → Int} {Q : Int → w_M → Prop}
theorem v_c.tx {m0 m : w_M} {l : List Int} (h : v_c m0 P W L) (h2 : m0 P 2 ≠ 365) (ht : c_tx m0 m P l) : v_c m P W L := by
  obtain ⟨k1, k2, k3, k4, k4b, k5, k6, k7, k8, k9⟩ := h
  have hP2 : P ≠ 365 := by rcases k2 with rfl | rfl <;> decide
  have hne := w_isP_na k2 k4
  have e : ∀ b : Int, b ≠ 4 → b ≠ 17 → m P b = m0 P b := fun b z1 z2 => ht.1 P b (by omega) (by omega)
  have e2 := e 2 (by decide) (by decide)
  have e3 := e 3 (by decide) (by decide)
  have e5 := e 5 (by decide) (by decide)
  refine ⟨k1, k2, ?_, ?_, ?_, ?_, ?_, ?_, ?_, fun i q1 q2 => ?_⟩
  · rw [e2]; exact k3
  · rw [e2]; exact k4
  · rw [e2]; exact k4b
  · rw [e3]; exact k5
  · rw [e3, e5]; exact k6
  · rw [e2, e5]; exact k7
  · rw [e2]; exact k8
  · rw [e2, e3, ht.1 _ _ (fun z => hne z.1.symm) (fun z => h2 z.1)]; exact k9 i q1 q2
theorem v_m.tx {n0 n : w_M} {l : List Int} (h : v_m n0 W L) (h2 : n0 428 18 ≠ 440) (ht : m_tx n0 n l) : v_m n W L := by
  obtain ⟨k1, k2, k3, k4, k5, k6, k7, k8⟩ := h
  have hne : n0 428 18 ≠ 428 := by
    intro e
    rw [e] at k3
    obtain ⟨q, hq⟩ := k3
    rw [s0_428] at hq
    cases hq
  have e : ∀ b : Int, b ≠ 21 → b ≠ 22 → b ≠ 26 → n 428 b = n0 428 b := fun b z1 z2 z3 => ht.1 428 b (by omega) (by omega)
  have e1 := e 18 (by decide) (by decide) (by decide)
  have e2 := e 19 (by decide) (by decide) (by decide)
  have e3 := e 20 (by decide) (by decide) (by decide)
  refine ⟨k1, ?_, ?_, ?_, ?_, ?_, ?_, fun i q1 q2 => ?_⟩
  · rw [e1]; exact k2
  · rw [e1]; exact k3
  · rw [e2]; exact k4
  · rw [e3]; exact k5
  · rw [e1, e2]; exact k6
  · rw [e1]; exact k7
  · rw [e1, e2, ht.1 _ _ (fun z => hne z.1) (fun z => h2 z.1)]; exact k8 i q1 q2
theorem t_by_r (hv : v_ok W L) (x : Int) : -1 ≤ W x ∧ W x < 256 := by
  by_cases z : 0 ≤ x ∧ x < L
  · have := hv.2.1 x z.1 z.2; omega
  · have := hv.2.2 x (by omega); omega
theorem t_reg_in (hv : v_ok W L) {x : Int} (h : b_reg (W x)) : 0 ≤ x ∧ x < L := by
  by_cases z : 0 ≤ x ∧ x < L
  · exact z
  · have := hv.2.2 x (by omega)
    have := h.1
    omega
/-- the class reads a name -/
theorem sp_name_14 (hv : v_c m0 P W L) (h2 : m0 P 2 ≠ 365) (h7 : 0 ≤ m0 359 7 ∧ m0 359 7 ≤ 200000) :
    ∀ (k : Nat) (p : Int) (l : List Int) (m : w_M), 0 ≤ p → p ≤ L → L - p ≤ k → l.length ≤ p → c_tx m0 m P l →
    (∀ e l', u_n W k p l = (0, e, l') → p ≤ e → e ≤ L → l'.length ≤ e → ∀ m', c_tx m0 m' P l' → xp_ps_name_113 (d + 1) P q (m0 P 3 + e) m' Q) →
    (∀ e l', u_n W k p l = (1, e, l') → ∀ m', c_tx m0 m' P l' → xc_ps_failAt (d + 1) P 4 q m' (fun r m1 => Q r m1)) →
    xp_ps_name_14 (d + 1) P q (m0 P 3 + p) m Q := by
  intro k
  have hP := hv.2.1
  have hok := hv.1
  have hb : 0 ≤ m0 P 3 ∧ m0 P 5 = m0 P 3 + L ∧ m0 P 5 ≤ 200000 := by
    obtain ⟨⟨v1, v2, v3⟩, h2, h3, h4, h4b, h5, h6, h7, h8, h9⟩ := hv
    omega
  have hP2 : P ≠ 365 := by rcases hP with rfl | rfl <;> decide
  induction k with
  | zero =>
    intro p l m p0 p1 p2 pl ht h0 h1
    have e5 : m P 5 = m0 P 5 := ht.1 _ _ (by omega) (by omega)
    apply xr_ps_name_14 hP
    rw [e5, if_neg (by omega)]
    exact h0 p l rfl (Int.le_refl p) p1 pl m ht
  | succ k ih =>
    intro p l m p0 p1 p2 pl ht h0 h1
    have eu : u_n W (k + 1) p l = if b_reg (W p) then (if W p = 35 then (if u_v W p = 0 then (1, p, l) else u_n W k (p + 3) (l ++ [u_v W p])) else u_n W k (p + 1) (l ++ [W p])) else (0, p, l) := rfl
    have e5 : m P 5 = m0 P 5 := ht.1 _ _ (by omega) (by omega)
    have e3 : m P 3 = m0 P 3 := ht.1 _ _ (by omega) (by omega)
    have hw := hv.tx h2 ht
    have hc := t_by_r hok p
    apply xr_ps_name_14 hP
    rw [e5]
    by_cases z : p < L
    · rw [if_pos (by omega)]
      refine sp_ps_at hw (i := p) (by omega) ?_
      refine sp_c_isRegular hc.1 ?_
      by_cases z2 : b_reg (W p)
      · rw [if_pos z2, if_neg (by decide)]
        rw [if_pos z2] at eu
        refine sp_ps_at hw (i := p) (by omega) ?_
        by_cases z3 : W p = 35
        · rw [if_pos z3]
          rw [if_pos z3] at eu
          rw [w_32_id (x := m0 P 3 + p + 1) (by omega) (by omega), w_32_id (x := m0 P 3 + p + 2) (by omega) (by omega), w_32_id (x := m0 P 3 + p + 2 + 1) (by omega) (by omega)]
          refine sp_ps_at hw (i := p + 1) (by omega) ?_
          refine sp_c_hex ?_
          refine sp_ps_at hw (i := p + 2) (by omega) ?_
          refine sp_c_hex ?_
          have r1 := h_x_r (W (p + 1))
          have r2 := h_x_r (W (p + 2))
          by_cases z4 : h_x (W (p + 1)) < 0
          · rw [if_pos z4]
            rw [if_pos (by unfold u_v; rw [if_pos (Or.inl z4)])] at eu
            exact h1 p l eu m ht
          · rw [if_neg z4]
            by_cases z5 : h_x (W (p + 2)) < 0
            · rw [if_pos z5]
              rw [if_pos (by unfold u_v; rw [if_pos (Or.inr z5)])] at eu
              exact h1 p l eu m ht
            · rw [if_neg z5]
              have ev : u_v W p = h_x (W (p + 1)) * 16 + h_x (W (p + 2)) := by unfold u_v; rw [if_neg (by omega)]
              rw [w_32_id (x := h_x (W (p + 1)) * 16) (by omega) (by omega), w_32_id (x := h_x (W (p + 1)) * 16 + h_x (W (p + 2))) (by omega) (by omega), ← ev]
              by_cases z6 : u_v W p = 0
              · rw [if_pos z6]
                rw [if_pos z6] at eu
                exact h1 p l eu m ht
              · rw [if_neg z6]
                rw [if_neg z6] at eu
                have hin : p + 2 < L := by
                  rcases Int.lt_or_le (p + 2) L with y | y
                  · exact y
                  · have e9 := hok.2.2 (p + 2) (Or.inr y)
                    rw [e9] at z5
                    exact absurd (by decide) z5
                refine sp_c_put hP ht h7 (by omega) (by omega) (by omega) (fun m' t1 t2 => ?_)
                rw [show m0 P 3 + p + 2 + 1 = m0 P 3 + (p + 3) by omega]
                have el := t_len l (u_v W p)
                exact ih (p + 3) _ m' (by omega) (by omega) (by omega) (by omega) t1 (fun e l' y1 y2 => h0 e l' (eu.trans y1) (by omega)) (fun e l' y1 => h1 e l' (eu.trans y1))
        · rw [if_neg z3]
          rw [if_neg z3] at eu
          have hz := z2.1
          refine sp_c_put hP ht h7 (by omega) (by omega) (by omega) (fun m' t1 t2 => ?_)
          have el := t_len l (W p)
          rw [w_32_id (by omega) (by omega), show m0 P 3 + p + 1 = m0 P 3 + (p + 1) by omega]
          exact ih (p + 1) _ m' (by omega) (by omega) (by omega) (by omega) t1 (fun e l' y1 y2 => h0 e l' (eu.trans y1) (by omega)) (fun e l' y1 => h1 e l' (eu.trans y1))
      · rw [if_neg z2, if_pos rfl]
        rw [if_neg z2] at eu
        exact h0 p l eu (Int.le_refl p) p1 pl m ht
    · rw [if_neg (by omega)]
      have z2 : ¬ b_reg (W p) := fun y => z (t_reg_in hok y).2
      rw [if_neg z2] at eu
      exact h0 p l eu (Int.le_refl p) p1 pl m ht
/-- the reference reads a name -/
theorem sp_readName_20 (hv : v_m n0 W L) (h2 : n0 428 18 ≠ 440) (hL : L ≤ 200000) {s : Int} (h7 : 0 ≤ n0 428 17 ∧ n0 428 17 + L ≤ 140000 + s) :
    ∀ (k : Nat) (p : Int) (l : List Int) (n : w_M), 0 ≤ p → p ≤ L → L - p ≤ k → l.length + s ≤ p → m_tx n0 n l → n 428 21 = p →
    (∀ e l', u_n W k p l = (0, e, l') → p ≤ e → e ≤ L → l'.length + s ≤ e → ∀ n', m_tx n0 n' l' → n' 428 21 = e → Q 0 (w_up n' 428 22 (if 60 < (l'.length : Int) then 11 else 4))) →
    (∀ e l', u_n W k p l = (1, e, l') → ∀ n', m_tx n0 n' l' → n' 428 21 = e → Q 0 (w_up n' 428 22 10)) →
    xp_m_readName_20 (d + 2) n Q := by
  intro k
  have hok := hv.1
  have stop : ∀ (p : Int) (l : List Int) (n : w_M), 0 ≤ p → p ≤ L → ¬ b_reg (W p) → m_tx n0 n l → n 428 21 = p → Q 0 (w_up n 428 22 (if 60 < (l.length : Int) then 11 else 4)) → xp_m_readName_20 (d + 2) n Q := by
    intro p l n p0 p1 z2 ht hp h0
    apply xr_m_readName_20
    refine sp_r_peek (hv.tx h2 ht) hp p0 (by omega) (by decide) (by decide) ?_
    refine sp_r_isRegular ?_
    rw [Int.add_zero, if_neg z2, if_pos rfl, ht.2.1]
    by_cases y : 60 < (l.length : Int)
    · rw [if_pos y]
      rw [if_pos y] at h0
      exact h0
    · rw [if_neg y]
      rw [if_neg y] at h0
      exact h0
  induction k with
  | zero =>
    intro p l n p0 p1 p2 pl ht hp h0 h1
    have z2 : ¬ b_reg (W p) := fun y => by have := (t_reg_in hok y).2; omega
    exact stop p l n p0 p1 z2 ht hp (h0 p l rfl (Int.le_refl p) p1 pl n ht hp)
  | succ k ih =>
    intro p l n p0 p1 p2 pl ht hp h0 h1
    have eu : u_n W (k + 1) p l = if b_reg (W p) then (if W p = 35 then (if u_v W p = 0 then (1, p, l) else u_n W k (p + 3) (l ++ [u_v W p])) else u_n W k (p + 1) (l ++ [W p])) else (0, p, l) := rfl
    have hw := hv.tx h2 ht
    by_cases z2 : b_reg (W p)
    · rw [if_pos z2] at eu
      have hin := (t_reg_in hok z2).2
      have hc := t_by_r hok p
      have hz := z2.1
      apply xr_m_readName_20
      refine sp_r_peek hw hp p0 (by omega) (by decide) (by decide) ?_
      refine sp_r_isRegular ?_
      rw [Int.add_zero, if_pos z2, if_neg (by decide)]
      refine sp_r_peek hw hp p0 (by omega) (by decide) (by decide) ?_
      rw [Int.add_zero]
      by_cases z3 : W p = 35
      · rw [if_pos z3]
        rw [if_pos z3] at eu
        refine sp_r_peek hw hp p0 (by omega) (by decide) (by decide) ?_
        refine sp_r_hex ?_
        have r1 := h_x_r (W (p + 1))
        have r2 := h_x_r (W (p + 2))
        have bad : u_v W p = 0 → xp_m_readName_83 (d + 2) 0 n Q := by
          intro y
          rw [if_pos y] at eu
          apply xr_m_readName_83
          rw [if_pos rfl]
          exact h1 p l eu n ht hp
        by_cases z4 : h_x (W (p + 1)) < 0
        · rw [if_pos z4]
          exact bad (by unfold u_v; rw [if_pos (Or.inl z4)])
        · rw [if_neg z4]
          refine sp_r_peek hw hp p0 (by omega) (by decide) (by decide) ?_
          refine sp_r_hex ?_
          by_cases z5 : h_x (W (p + 2)) < 0
          · rw [if_pos z5]
            exact bad (by unfold u_v; rw [if_pos (Or.inr z5)])
          · rw [if_neg z5]
            have ev : u_v W p = h_x (W (p + 1)) * 16 + h_x (W (p + 2)) := by unfold u_v; rw [if_neg (by omega)]
            rw [w_32_id (x := 16 * h_x (W (p + 1))) (by omega) (by omega), w_32_id (x := 16 * h_x (W (p + 1)) + h_x (W (p + 2))) (by omega) (by omega), show 16 * h_x (W (p + 1)) + h_x (W (p + 2)) = u_v W p by omega]
            by_cases z6 : u_v W p = 0
            · rw [z6]
              exact bad z6
            · rw [if_neg z6] at eu
              have hin2 : p + 2 < L := by
                rcases Int.lt_or_le (p + 2) L with y | y
                · exact y
                · have e9 := hok.2.2 (p + 2) (Or.inr y)
                  rw [e9] at z5
                  exact absurd (by decide) z5
              apply xr_m_readName_83
              rw [if_neg z6, hp, w_32_id (x := p + 2) (by omega) (by omega)]
              refine sp_r_put ht.at21 ⟨h7.1, by omega⟩ (by omega) (by omega) (fun n' t1 t2 => ?_)
              rw [w_up_eq] at t2
              have el := t_len l (u_v W p)
              rw [t2, w_32_id (by omega) (by omega)]
              exact ih (p + 3) _ _ (by omega) (by omega) (by omega) (by omega) t1.at21 (by rw [w_up_eq]; omega) (fun e l' y1 y2 => h0 e l' (eu.trans y1) (by omega)) (fun e l' y1 => h1 e l' (eu.trans y1))
      · rw [if_neg z3]
        rw [if_neg z3] at eu
        refine sp_r_put ht ⟨h7.1, by omega⟩ (by omega) (by omega) (fun n' t1 t2 => ?_)
        have el := t_len l (W p)
        rw [t2, hp, w_32_id (by omega) (by omega)]
        exact ih (p + 1) _ _ (by omega) (by omega) (by omega) (by omega) t1.at21 w_up_eq (fun e l' y1 y2 => h0 e l' (eu.trans y1) (by omega)) (fun e l' y1 => h1 e l' (eu.trans y1))
    · rw [if_neg z2] at eu
      exact stop p l n p0 p1 z2 ht hp (h0 p l eu (Int.le_refl p) p1 pl n ht hp)
end TN
