/-! ===== round strings ===== -/
def e_c (c : Int) : Int := if c = 40 then c else if c = 41 then c else if c = 92 then c else if c = 98 then 8 else if c = 102 then 12 else if c = 110 then 10 else if c = 114 then 13 else if c = 116 then 9 else -1
def u_o (W : Int → Int) : Nat → Int → Int → Int × Int
  | 0, p, v => (p, v)
  | k + 1, p, v => if 48 ≤ W p ∧ W p ≤ 55 then u_o W k (p + 1) (v * 8 + (W p - 48)) else (p, v)
/-- behind a backslash -/
def u_e (W : Int → Int) (p : Int) : Int × List Int :=
  if 0 ≤ e_c (W p) then (p + 1, [e_c (W p)]) else if 48 ≤ W p ∧ W p ≤ 55 then ((u_o W 3 p 0).1, [(u_o W 3 p 0).2 % 256]) else if W p = 13 then (if W (p + 1) = 10 then (p + 2, []) else (p + 1, [])) else if W p = 10 then (p + 1, []) else (p, [])
/-- 1: it never closes; 0: where it has closed; the bytes -/
def u_r (W : Int → Int) : Nat → Int → Int → List Int → Int × Int × List Int
  | 0, p, _, l => (1, p, l)
  | k + 1, p, D, l => if W p < 0 then (1, p, l) else if W p = 92 then u_r W k (u_e W (p + 1)).1 D (l ++ (u_e W (p + 1)).2) else if W p = 13 then u_r W k (if W (p + 1) = 10 then p + 2 else p + 1) D (l ++ [10]) else if W p = 41 ∧ D = 1 then (0, p + 1, l) else u_r W k (p + 1) (if W p = 40 then D + 1 else if W p = 41 then D - 1 else D) (l ++ [W p])
theorem e_c_r (c : Int) : -1 ≤ e_c c ∧ e_c c < 256 := by
  unfold e_c
  repeat' split
  all_goals omega
theorem e_c_d {c : Int} (h : 48 ≤ c ∧ c ≤ 55) : e_c c = -1 := by
  unfold e_c
  rw [if_neg (by omega), if_neg (by omega), if_neg (by omega), if_neg (by omega), if_neg (by omega), if_neg (by omega), if_neg (by omega), if_neg (by omega)]
theorem e_c_m : e_c (-1) = -1 := by decide
theorem t_in {W : Int → Int} {L : Int} (hv : v_ok W L) {x : Int} (h : 0 ≤ W x) : 0 ≤ x ∧ x < L := by
  by_cases z : 0 ≤ x ∧ x < L
  · exact z
  · have := hv.2.2 x (by omega)
    omega
theorem u_o_r {W : Int → Int} {L : Int} (hv : v_ok W L) : ∀ (k : Nat) (p v : Int), 0 ≤ p → p ≤ L → p ≤ (u_o W k p v).1 ∧ (u_o W k p v).1 ≤ L := by
  intro k
  induction k with
  | zero => intro p v h0 h1; exact ⟨Int.le_refl p, h1⟩
  | succ k ih =>
    intro p v h0 h1
    show p ≤ (if 48 ≤ W p ∧ W p ≤ 55 then u_o W k (p + 1) (v * 8 + (W p - 48)) else (p, v)).1 ∧ (if 48 ≤ W p ∧ W p ≤ 55 then u_o W k (p + 1) (v * 8 + (W p - 48)) else (p, v)).1 ≤ L
    by_cases z : 48 ≤ W p ∧ W p ≤ 55
    · rw [if_pos z]
      have hin := t_in hv (x := p) (by omega)
      have := ih (p + 1) (v * 8 + (W p - 48)) (by omega) (by omega)
      omega
    · rw [if_neg z]
      exact ⟨Int.le_refl p, h1⟩
theorem u_o_1 {W : Int → Int} {L : Int} (hv : v_ok W L) {p : Int} (h : 48 ≤ W p ∧ W p ≤ 55) : p + 1 ≤ (u_o W 3 p 0).1 ∧ (u_o W 3 p 0).1 ≤ L := by
  have hin := t_in hv (x := p) (by omega)
  have e : u_o W 3 p 0 = u_o W 2 (p + 1) (0 * 8 + (W p - 48)) := if_pos h
  rw [e]
  exact u_o_r hv 2 (p + 1) _ (by omega) (by omega)
/-- an escape stays within, and gives no more bytes than it has -/
theorem u_e_r {W : Int → Int} {L : Int} (hv : v_ok W L) {p : Int} (h0 : 0 ≤ p) (h1 : p ≤ L) : p ≤ (u_e W p).1 ∧ (u_e W p).1 ≤ L ∧ p + (u_e W p).2.length ≤ (u_e W p).1 := by
  unfold u_e
  by_cases q1 : 0 ≤ e_c (W p)
  · rw [if_pos q1]
    have hin : p < L := by
      rcases Int.lt_or_le p L with y | y
      · exact y
      · have e9 := hv.2.2 p (Or.inr y)
        rw [e9, e_c_m] at q1
        exact absurd q1 (by decide)
    show p ≤ p + 1 ∧ p + 1 ≤ L ∧ p + ((1 : Nat) : Int) ≤ p + 1
    omega
  · rw [if_neg q1]
    by_cases q2 : 48 ≤ W p ∧ W p ≤ 55
    · rw [if_pos q2]
      have := u_o_1 hv q2
      show p ≤ (u_o W 3 p 0).1 ∧ (u_o W 3 p 0).1 ≤ L ∧ p + ((1 : Nat) : Int) ≤ (u_o W 3 p 0).1
      omega
    · rw [if_neg q2]
      by_cases q3 : W p = 13
      · have hin := t_in hv (x := p) (by omega)
        rw [if_pos q3]
        by_cases q4 : W (p + 1) = 10
        · have hin2 := t_in hv (x := p + 1) (by omega)
          rw [if_pos q4]
          show p ≤ p + 2 ∧ p + 2 ≤ L ∧ p + ((0 : Nat) : Int) ≤ p + 2
          omega
        · rw [if_neg q4]
          show p ≤ p + 1 ∧ p + 1 ≤ L ∧ p + ((0 : Nat) : Int) ≤ p + 1
          omega
      · rw [if_neg q3]
        by_cases q4 : W p = 10
        · have hin := t_in hv (x := p) (by omega)
          rw [if_pos q4]
          show p ≤ p + 1 ∧ p + 1 ≤ L ∧ p + ((0 : Nat) : Int) ≤ p + 1
          omega
        · rw [if_neg q4]
          show p ≤ p ∧ p ≤ L ∧ p + ((0 : Nat) : Int) ≤ p
          omega
theorem t_app2 (l l2 : List Int) : (((l ++ l2).length : Nat) : Int) = (l.length : Int) + l2.length := by
  rw [List.length_append]
  omega
section TR
variable {d : Nat} {m0 n0 : w_M} {P L : Int} {W : Int → Int} {Q : Int → w_M → Prop}
theorem sp_se_53 (hv : v_c m0 P W L) (h2 : m0 P 2 ≠ 365) (h7 : 0 ≤ m0 359 7 ∧ m0 359 7 ≤ 200000) {l : List Int} (hl : l.length ≤ 200000) :
    ∀ (k j : Nat) (p v : Int) (m : w_M), j + k = 3 → 0 ≤ v → ((j = 0 ∧ v = 0) ∨ (j = 1 ∧ v ≤ 7) ∨ (j = 2 ∧ v ≤ 63) ∨ (j = 3 ∧ v ≤ 511)) → 0 ≤ p → p ≤ L → c_tx m0 m P l → m P 4 = m0 P 3 + p →
    (∀ m', c_tx m0 m' P (l ++ [(u_o W k p v).2 % 256]) → m' P 4 = m0 P 3 + (u_o W k p v).1 → Q 0 m') → xp_ps_scanEscape_53 (d + 1) P v j m Q := by
  intro k
  have hP := hv.2.1
  have hok := hv.1
  have hb : 0 ≤ m0 P 3 ∧ m0 P 3 + L ≤ 200000 := by
    obtain ⟨⟨v1, v2, v3⟩, h2, h3, h4, h4b, h5, h6, h7, h8, h9⟩ := hv
    omega
  induction k with
  | zero =>
    intro j p v m hj v0 hjv p0 p1 ht hp hQ
    apply xr_ps_scanEscape_53 hP
    rw [if_neg (by omega)]
    exact sp_c_put hP ht h7 hl (by omega) (by omega) (fun m' t1 t2 => hQ m' t1 (by rw [t2, hp]; rfl))
  | succ k ih =>
    intro j p v m hj v0 hjv p0 p1 ht hp hQ
    have eu : u_o W (k + 1) p v = if 48 ≤ W p ∧ W p ≤ 55 then u_o W k (p + 1) (v * 8 + (W p - 48)) else (p, v) := rfl
    have hw := hv.tx h2 ht
    have e3 : m P 3 = m0 P 3 := ht.1 _ _ (by omega) (by rcases hP with rfl | rfl <;> omega)
    apply xr_ps_scanEscape_53 hP
    rw [if_pos (by omega)]
    refine sp_ps_at hw (i := p) (by omega) ?_
    have stop : ¬ (48 ≤ W p ∧ W p ≤ 55) → xc_ps_put (d + 1) P (v % 256) m (fun r2 m2 => Q 0 m2) := by
      intro z
      rw [if_neg z] at eu
      rw [eu] at hQ
      exact sp_c_put hP ht h7 hl (by omega) (by omega) (fun m' t1 t2 => hQ m' t1 (by rw [t2, hp]))
    by_cases q1 : W p < 48
    · rw [if_pos q1]
      exact stop (by omega)
    · rw [if_neg q1]
      refine sp_ps_at hw (i := p) (by omega) ?_
      by_cases q2 : 55 < W p
      · rw [if_pos q2]
        exact stop (by omega)
      · rw [if_neg q2]
        have z : 48 ≤ W p ∧ W p ≤ 55 := by omega
        have hin := t_in hok (x := p) (by omega)
        rw [if_pos z] at eu
        rw [eu] at hQ
        refine sp_ps_at hw (i := p) (by omega) ?_
        rw [hp, w_32_id (x := m0 P 3 + p + 1) (by omega) (by omega), w_32_id (x := v * 8) (by omega) (by omega), w_32_id (x := W p - 48) (by omega) (by omega), w_32_id (x := v * 8 + (W p - 48)) (by omega) (by omega), w_32_id (x := (j : Int) + 1) (by omega) (by omega), show (j : Int) + 1 = ((j + 1 : Nat) : Int) by omega]
        exact ih (j + 1) (p + 1) _ _ (by omega) (by omega) (by omega) (by omega) (by omega) (ht.at4 hP) (by rw [w_up_eq]; omega) hQ
theorem sp_scanEscape (hv : v_c m0 P W L) (h2 : m0 P 2 ≠ 365) (h7 : 0 ≤ m0 359 7 ∧ m0 359 7 ≤ 200000) {l : List Int} (hl : l.length ≤ 200000) {p : Int} {m : w_M} (p0 : 0 ≤ p) (p1 : p ≤ L) (ht : c_tx m0 m P l) (hp : m P 4 = m0 P 3 + p)
    (hQ : ∀ m', c_tx m0 m' P (l ++ (u_e W p).2) → m' P 4 = m0 P 3 + (u_e W p).1 → Q 0 m') : xc_ps_scanEscape (d + 2) P m Q := by
  have hP := hv.2.1
  have hok := hv.1
  have hb : 0 ≤ m0 P 3 ∧ m0 P 3 + L ≤ 200000 := by
    obtain ⟨⟨v1, v2, v3⟩, h2, h3, h4, h4b, h5, h6, h7, h8, h9⟩ := hv
    omega
  have hw := hv.tx h2 ht
  have e3 : m P 3 = m0 P 3 := ht.1 _ _ (by omega) (by rcases hP with rfl | rfl <;> omega)
  have er := e_c_r (W p)
  apply xr_ps_scanEscape hP
  refine sp_ps_at hw (i := p) (by omega) ?_
  refine sp_ps_escaped ?_
  have ef : f_ps_escaped m (W p) = e_c (W p) := rfl
  rw [ef]
  unfold u_e at hQ
  by_cases q1 : e_c (W p) < 0
  · rw [if_neg (by omega)] at hQ
    rw [if_pos q1]
    have other : ¬ (48 ≤ W p ∧ W p ≤ 55) → xp_ps_scanEscape_130 (d + 1) P (W p) m Q := by
      intro z
      rw [if_neg z] at hQ
      apply xr_ps_scanEscape_130 hP
      by_cases q3 : W p = 13
      · rw [if_pos q3] at hQ ⊢
        rw [hp, w_32_id (x := m0 P 3 + p + 1) (by omega) (by omega), w_32_id (x := m0 P 3 + p + 2) (by omega) (by omega)]
        refine sp_ps_at hw (i := p + 1) (by omega) ?_
        by_cases q4 : W (p + 1) = 10
        · rw [if_pos q4] at hQ ⊢
          refine hQ _ ?_ (by rw [w_up_eq]; show _ = m0 P 3 + (p + 2); omega)
          show c_tx m0 _ P (l ++ [])
          rw [List.append_nil]
          exact ht.at4 hP
        · rw [if_neg q4] at hQ ⊢
          refine hQ _ ?_ (by rw [w_up_eq]; show _ = m0 P 3 + (p + 1); omega)
          show c_tx m0 _ P (l ++ [])
          rw [List.append_nil]
          exact ht.at4 hP
      · rw [if_neg q3] at hQ ⊢
        by_cases q4 : W p = 10
        · rw [if_pos q4] at hQ ⊢
          rw [hp, w_32_id (x := m0 P 3 + p + 1) (by omega) (by omega)]
          refine hQ _ ?_ (by rw [w_up_eq]; show _ = m0 P 3 + (p + 1); omega)
          show c_tx m0 _ P (l ++ [])
          rw [List.append_nil]
          exact ht.at4 hP
        · rw [if_neg q4] at hQ ⊢
          refine hQ _ ?_ hp
          show c_tx m0 _ P (l ++ [])
          rw [List.append_nil]
          exact ht
    by_cases q2 : W p < 48
    · rw [if_pos q2]
      exact other (by omega)
    · rw [if_neg q2]
      by_cases q3 : 55 < W p
      · rw [if_pos q3]
        exact other (by omega)
      · rw [if_neg q3]
        rw [if_pos ⟨by omega, by omega⟩] at hQ
        exact sp_se_53 hv h2 h7 hl 3 0 p 0 m rfl (by decide) (Or.inl ⟨rfl, rfl⟩) p0 p1 ht hp hQ
  · rw [if_pos (by omega)] at hQ
    rw [if_neg q1, hp, w_32_id (x := m0 P 3 + p + 1) (by omega) (by omega)]
    exact sp_c_put hP (ht.at4 hP) h7 hl (by omega) (by omega) (fun m' t1 t2 => hQ m' t1 (by rw [t2, w_up_eq]; show _ = m0 P 3 + (p + 1); omega))
/-- the class's round string -/
theorem sp_scanRound_17 (hv : v_c m0 P W L) (h2 : m0 P 2 ≠ 365) (h7 : 0 ≤ m0 359 7 ∧ m0 359 7 ≤ 200000) :
    ∀ (k : Nat) (p D : Int) (l : List Int) (m : w_M), 0 ≤ p → p ≤ L → L - p ≤ k → 1 ≤ D → D ≤ p + 1 → l.length ≤ p → c_tx m0 m P l → m P 4 = m0 P 3 + p →
    (∀ e l', u_r W k p D l = (0, e, l') → 0 ≤ e → e ≤ L → l'.length ≤ e → ∀ m', c_tx m0 m' P l' → m' P 4 = m0 P 3 + e → Q 1 m') →
    (∀ e l', u_r W k p D l = (1, e, l') → ∀ m', c_tx m0 m' P l' → Q 0 m') →
    xp_ps_scanRound_17 (d + 2) P D m Q := by
  intro k
  have hP := hv.2.1
  have hok := hv.1
  have hb : 0 ≤ m0 P 3 ∧ m0 P 5 = m0 P 3 + L ∧ m0 P 3 + L ≤ 200000 := by
    obtain ⟨⟨v1, v2, v3⟩, h2, h3, h4, h4b, h5, h6, h7, h8, h9⟩ := hv
    omega
  have hP2 : P ≠ 365 := by rcases hP with rfl | rfl <;> decide
  induction k with
  | zero =>
    intro p D l m p0 p1 p2 D0 D1 pl ht hp h1 h0
    have e5 : m P 5 = m0 P 5 := ht.1 _ _ (by omega) (by omega)
    apply xr_ps_scanRound_17 hP
    rw [e5, if_neg (by omega)]
    exact h0 p l rfl m ht
  | succ k ih =>
    intro p D l m p0 p1 p2 D0 D1 pl ht hp h1 h0
    have eu : u_r W (k + 1) p D l = if W p < 0 then (1, p, l) else if W p = 92 then u_r W k (u_e W (p + 1)).1 D (l ++ (u_e W (p + 1)).2) else if W p = 13 then u_r W k (if W (p + 1) = 10 then p + 2 else p + 1) D (l ++ [10]) else if W p = 41 ∧ D = 1 then (0, p + 1, l) else u_r W k (p + 1) (if W p = 40 then D + 1 else if W p = 41 then D - 1 else D) (l ++ [W p]) := rfl
    have e5 : m P 5 = m0 P 5 := ht.1 _ _ (by omega) (by omega)
    have e3 : m P 3 = m0 P 3 := ht.1 _ _ (by omega) (by omega)
    have hw := hv.tx h2 ht
    have hc := t_by_r hok p
    apply xr_ps_scanRound_17 hP
    rw [e5]
    by_cases z : p < L
    · have hz := (hok.2.1 p p0 z).1
      rw [if_neg (by omega)] at eu
      rw [if_pos (by omega)]
      refine sp_ps_at hw (i := p) (by omega) ?_
      have e1 : w_32 (m P 4 + 1) = m0 P 3 + (p + 1) := by rw [hp, w_32_id (by omega) (by omega)]; omega
      rw [e1]
      have ht1 := ht.at4 hP (v := m0 P 3 + (p + 1))
      by_cases q1 : W p = 92
      · rw [if_pos q1]
        rw [if_pos q1] at eu
        have hr := u_e_r hok (p := p + 1) (by omega) (by omega)
        refine sp_scanEscape hv h2 h7 (by omega) (p := p + 1) (by omega) (by omega) ht1 w_up_eq (fun m' t1 t2 => ?_)
        have el := t_app2 l (u_e W (p + 1)).2
        exact ih _ D _ m' (by omega) (by omega) (by omega) D0 (by omega) (by omega) t1 t2 (fun e l' y1 => h1 e l' (eu.trans y1)) (fun e l' y1 => h0 e l' (eu.trans y1))
      · rw [if_neg q1]
        rw [if_neg q1] at eu
        by_cases q2 : W p = 13
        · rw [if_pos q2]
          rw [if_pos q2] at eu
          refine sp_ps_at (hv.tx h2 ht1) (i := p + 1) (by rw [w_up_nb (by decide)]; omega) ?_
          have el := t_len l 10
          by_cases q3 : W (p + 1) = 10
          · have hin2 := t_in hok (x := p + 1) (by omega)
            rw [if_pos q3]
            rw [if_pos q3] at eu
            rw [w_up_up, w_32_id (by omega) (by omega)]
            refine sp_c_put hP (ht.at4 hP) h7 (by omega) (by decide) (by decide) (fun m' t1 t2 => ?_)
            exact ih (p + 2) D _ m' (by omega) (by omega) (by omega) D0 (by omega) (by omega) t1 (by rw [t2, w_up_eq]; omega) (fun e l' y1 => h1 e l' (eu.trans y1)) (fun e l' y1 => h0 e l' (eu.trans y1))
          · rw [if_neg q3]
            rw [if_neg q3] at eu
            rw [w_up_up, w_32_id (by omega) (by omega)]
            refine sp_c_put hP (ht.at4 hP) h7 (by omega) (by decide) (by decide) (fun m' t1 t2 => ?_)
            exact ih (p + 1) D _ m' (by omega) (by omega) (by omega) D0 (by omega) (by omega) t1 (by rw [t2, w_up_eq]; omega) (fun e l' y1 => h1 e l' (eu.trans y1)) (fun e l' y1 => h0 e l' (eu.trans y1))
        · rw [if_neg q2]
          rw [if_neg q2] at eu
          have el := t_len l (W p)
          have next : ¬ (W p = 41 ∧ D = 1) → xp_ps_scanRound_115 (d + 2) P D (W p) (w_up m P 4 (m0 P 3 + (p + 1))) Q := by
            intro y
            rw [if_neg y] at eu
            apply xr_ps_scanRound_115 hP
            by_cases q3 : W p = 40
            · rw [if_pos q3]
              rw [if_pos q3] at eu
              refine sp_c_put hP ht1 h7 (by omega) (by omega) (by omega) (fun m' t1 t2 => ?_)
              rw [w_32_id (by omega) (by omega)]
              exact ih (p + 1) (D + 1) _ m' (by omega) (by omega) (by omega) (by omega) (by omega) (by omega) t1 (by rw [t2, w_up_eq]) (fun e l' y1 => h1 e l' (eu.trans y1)) (fun e l' y1 => h0 e l' (eu.trans y1))
            · rw [if_neg q3]
              rw [if_neg q3] at eu
              by_cases q4 : W p = 41
              · rw [if_pos q4]
                rw [if_pos q4] at eu
                refine sp_c_put hP ht1 h7 (by omega) (by omega) (by omega) (fun m' t1 t2 => ?_)
                rw [w_32_id (by omega) (by omega), show D + -1 = D - 1 by omega]
                exact ih (p + 1) (D - 1) _ m' (by omega) (by omega) (by omega) (by omega) (by omega) (by omega) t1 (by rw [t2, w_up_eq]) (fun e l' y1 => h1 e l' (eu.trans y1)) (fun e l' y1 => h0 e l' (eu.trans y1))
              · rw [if_neg q4]
                rw [if_neg q4] at eu
                refine sp_c_put hP ht1 h7 (by omega) (by omega) (by omega) (fun m' t1 t2 => ?_)
                rw [w_32_id (by omega) (by omega), Int.add_zero]
                exact ih (p + 1) D _ m' (by omega) (by omega) (by omega) (by omega) (by omega) (by omega) t1 (by rw [t2, w_up_eq]) (fun e l' y1 => h1 e l' (eu.trans y1)) (fun e l' y1 => h0 e l' (eu.trans y1))
          by_cases q3 : W p = 41
          · rw [if_pos q3]
            by_cases q4 : D = 1
            · rw [if_pos q4]
              rw [if_pos ⟨q3, q4⟩] at eu
              exact h1 (p + 1) l eu (by omega) (by omega) (by omega) _ ht1 w_up_eq
            · rw [if_neg q4]
              exact next (fun y => q4 y.2)
          · rw [if_neg q3]
            exact next (fun y => q3 y.1)
    · have hz := hok.2.2 p (Or.inr (by omega))
      rw [if_neg (by omega)]
      rw [if_pos (by omega)] at eu
      exact h0 p l eu m ht
end TR
