/-! ===== the reference reads a row ===== -/
theorem f_dig_m {m : w_M} {c : Int} : f_m_isDigit m c = if b_dig c then 1 else 0 := by
  unfold f_m_isDigit
  by_cases q : b_dig c
  · obtain ⟨h1, h2⟩ := q
    rw [if_neg (by omega), if_neg (by omega), if_pos ⟨h1, h2⟩]
  · rw [if_neg q]
    split
    · rfl
    · split
      · rfl
      · exact absurd ⟨by omega, by omega⟩ q
theorem sp_r_isDigit {d : Nat} {m : w_M} {c : Int} {Q : Int → w_M → Prop} (h : Q (if b_dig c then 1 else 0) m) : xc_m_isDigit (d + 1) c m Q := sp_m_isDigit (by rw [f_dig_m]; exact h)
theorem w_k0 {k : Nat} (h : ¬ 0 < (k : Int)) : k = 0 := by omega
theorem w_k1 {k : Nat} (h : 0 < (k : Int)) {z : Prop} : ¬ (k = 0 ∧ z) := by intro x; omega
theorem w_or_1 {x : Int} (h : x = 0 ∨ x = 1) : w_or x 1 = 1 := by rcases h with rfl | rfl <;> decide +kernel
theorem w_or_0 {x : Int} (h : x = 0 ∨ x = 1) : w_or x 0 = x := by rcases h with rfl | rfl <;> decide +kernel
/-- the row of regular bytes at p: the reference has read it -/
def m_row (n : w_M) (W : Int → Int) (L p : Int) : Prop :=
  n 428 25 = (if W p = 43 ∨ W p = 45 then 1 else 0) ∧
  (g_kd (g_s W p (g_len W (L - p).toNat p)) = -1 → n 428 22 = 3 ∧ n 428 26 = g_len W (L - p).toNat p) ∧
  (g_kd (g_s W p (g_len W (L - p).toNat p)) ≠ -1 → (n 428 22 = 11 ∧ g_by (g_s W p (g_len W (L - p).toNat p)) (W p)) ∨
    (¬ g_by (g_s W p (g_len W (L - p).toNat p)) (W p) ∧ n 428 24 = g_va (g_s W p (g_len W (L - p).toNat p)) (W p) ∧ n 428 22 = (if g_kd (g_s W p (g_len W (L - p).toNat p)) = 2 then 1 else 2)))
section RM
variable {d : Nat} {n : w_M} {L p : Int} {W : Int → Int} {Q : Int → w_M → Prop}
/-- what a row changes -/
def m_rc (a b : Int) : Prop := a = 428 ∧ (b = 21 ∨ b = 22 ∨ b = 24 ∨ b = 25 ∨ b = 26)
theorem sp_realOf_27 {s : g_t} {c mi : Int} {j : Nat} (hj : (j : Int) = s.2.2.1) (hj9 : j ≤ 9) (hsc : s.2.2.2.2.2.1 = 10 ^ j) (h1 : s.1 = 1) (hbf : s.2.1 ≤ 9) (hT : 0 ≤ s.2.2.2.1) (hTb : s.2.2.2.1 < 1000000000) (hpr : 0 ≤ s.2.2.2.2.1) (hps : s.2.2.2.2.1 < s.2.2.2.2.2.1) (hmi : mi = if c = 45 then 1 else 0)
    (k1 : ∀ v, g_by s c → Q 0 (w_up (w_up n 428 22 11) 428 24 v)) (k2 : ¬ g_by s c → Q 0 (w_up (w_up n 428 22 2) 428 24 (g_va s c))) :
    ∀ (q i : Nat), i + q = j → xp_m_realOf_27 (d + 1) mi s.2.2.2.1 s.2.2.2.2.1 s.2.2.1 (10 ^ i) i n Q := by
  intro q
  have ht := g_ten j hj9
  have hq0 : 0 ≤ (s.2.2.2.2.1 * 131072 + s.2.2.2.2.2.1) / (2 * s.2.2.2.2.2.1) := Int.ediv_nonneg (by omega) (by omega)
  have hq1 : (s.2.2.2.2.1 * 131072 + s.2.2.2.2.2.1) / (2 * s.2.2.2.2.2.1) < 65537 := Int.ediv_lt_of_lt_mul (by omega) (by omega)
  induction q with
  | zero =>
    intro i hi
    have hi : i = j := by omega
    subst hi
    apply xr_m_realOf_27
    rw [if_neg (by omega), ← hsc]
    have hz : w_ldiv (w_64 (w_64 (w_64 (2 * s.2.2.2.2.1) * 65536) + s.2.2.2.2.2.1)) (w_64 (2 * s.2.2.2.2.2.1)) = (s.2.2.2.2.1 * 131072 + s.2.2.2.2.2.1) / (2 * s.2.2.2.2.2.1) := by
      rw [w_64_id (x := 2 * s.2.2.2.2.1) (by omega) (by omega), w_64_id (x := 2 * s.2.2.2.2.1 * 65536) (by omega) (by omega), w_64_id (x := 2 * s.2.2.2.2.2.1) (by omega) (by omega), w_64_id (by omega) (by omega), w_ldiv_p (by omega) (by omega) (by omega) (by omega), show 2 * s.2.2.2.2.1 * 65536 = s.2.2.2.2.1 * 131072 by omega]
    rw [w_64_id (x := 2 * s.2.2.2.2.2.1) (by omega) (by omega)] at hz ⊢
    refine ⟨by omega, ?_⟩
    rw [hz, w_64_id (x := s.2.2.2.1 * 65536) (by omega) (by omega), w_64_id (x := s.2.2.2.1 * 65536 + (s.2.2.2.2.1 * 131072 + s.2.2.2.2.2.1) / (2 * s.2.2.2.2.2.1)) (by omega) (by omega)]
    have ea : g_ab s = s.2.2.2.1 * 65536 + (s.2.2.2.2.1 * 131072 + s.2.2.2.2.2.1) / (2 * s.2.2.2.2.2.1) := if_pos h1
    rw [← ea]
    have hab : 0 ≤ g_ab s ∧ g_ab s < 100000000000000 := by rw [ea]; omega
    have fin : ∀ v, v = g_va s c → xp_m_realOf_88 (d + 1) v n Q := by
      intro v hv
      subst hv
      apply xr_m_realOf_88
      by_cases q4 : g_va s c < -2147483648
      · rw [if_pos q4]; exact k1 _ (Or.inr (Or.inl q4))
      · rw [if_neg q4]
        by_cases q5 : 2147483647 < g_va s c
        · rw [if_pos q5]; exact k1 _ (Or.inr (Or.inr q5))
        · rw [if_neg q5, w_32_id (by omega) (by omega)]
          refine k2 (fun z => ?_)
          rcases z with z | z | z
          · omega
          · exact q4 z
          · exact q5 z
    by_cases q2 : c = 45
    · rw [if_pos q2] at hmi
      rw [if_neg (by omega), w_64_id (by omega) (by omega)]
      exact fin _ (by unfold g_va; rw [if_pos q2])
    · rw [if_neg q2] at hmi
      rw [if_pos hmi]
      exact fin _ (by unfold g_va; rw [if_neg q2])
  | succ q ih =>
    intro i hi
    have ht2 := g_ten i (by omega)
    apply xr_m_realOf_27
    rw [if_pos (by omega), w_64_id (by omega) (by omega), w_32_id (by omega) (by omega), ← Int.pow_succ, show (i : Int) + 1 = ((i + 1 : Nat) : Int) by omega]
    exact ih (i + 1) (by omega)
theorem sp_row1_end {s : g_t} {c : Int} {K : Int} {m2 : w_M} (hpt : 0 ≤ s.1) (hbf : 0 ≤ s.2.1 ∧ s.2.1 ≤ 300000) (hbh : 0 ≤ s.2.2.1 ∧ s.2.2.1 ≤ 300000) (hT : 0 ≤ s.2.2.2.1) (hTb : s.2.1 ≤ 9 → s.2.2.2.1 < 1000000000) (hpr : 0 ≤ s.2.2.2.2.1) (hps : s.2.2.2.2.1 < s.2.2.2.2.2.1) (hsc : ∃ j : Nat, j ≤ 9 ∧ s.2.2.2.2.2.1 = 10 ^ j ∧ ((j : Int) = s.2.2.1 ∨ (9 < s.2.2.1 ∧ j = 9)))
    (k0 : g_kd s = -1 → Q 0 (w_up (w_up m2 428 22 3) 428 26 K)) (k1 : ∀ v, g_kd s ≠ -1 → g_by s c → Q 0 (w_up (w_up m2 428 22 11) 428 24 v)) (k1b : g_kd s ≠ -1 → g_by s c → Q 0 (w_up m2 428 22 11)) (k2 : g_kd s ≠ -1 → ¬ g_by s c → Q 0 (w_up (w_up m2 428 22 (if g_kd s = 2 then 1 else 2)) 428 24 (g_va s c))) :
    if s.2.2.2.2.2.2 = 0 then (if s.2.1 + s.2.2.1 = 0 then Q 0 (w_up (w_up m2 428 22 3) 428 26 K) else (if 1 < s.1 then Q 0 (w_up (w_up m2 428 22 3) 428 26 K) else (if s.1 = 0 then (if (if c = 45 then (1 : Int) else 0) = 0 then xp_m_row1_292 (d + 2) (if 4294967296 < s.2.2.2.1 then 1 else 0) (min s.2.2.2.1 4294967297) m2 Q else xp_m_row1_292 (d + 2) (if 4294967296 < s.2.2.2.1 then 1 else 0) (w_64 (-(min s.2.2.2.1 4294967297))) m2 Q) else xc_m_realOf (d + 2) (if c = 45 then 1 else 0) (min s.2.2.2.1 4294967297) s.2.2.2.2.1 s.2.2.1 (w_32 (s.2.1 + s.2.2.1 - s.2.2.1)) m2 (fun r3 m3 => Q 0 m3)))) else Q 0 (w_up (w_up m2 428 22 3) 428 26 K) := by
  by_cases q1 : s.2.2.2.2.2.2 = 0
  · rw [if_pos q1]
    by_cases q2 : s.2.1 + s.2.2.1 = 0
    · rw [if_pos q2]
      exact k0 (if_pos (Or.inr (Or.inr q2)))
    · rw [if_neg q2]
      by_cases q3 : 1 < s.1
      · rw [if_pos q3]
        exact k0 (if_pos (Or.inr (Or.inl q3)))
      · rw [if_neg q3]
        have ekd : g_kd s = if s.1 = 0 then 2 else 3 := if_neg (by omega)
        by_cases q4 : s.1 = 0
        · rw [if_pos q4]
          rw [if_pos q4] at ekd
          rw [ekd] at k1 k2 k1b
          have ea : g_ab s = s.2.2.2.1 := if_neg (by omega)
          have fin : ∀ v, v = (if c = 45 then -(min s.2.2.2.1 4294967297) else min s.2.2.2.1 4294967297) → xp_m_row1_292 (d + 2) (if 4294967296 < s.2.2.2.1 then 1 else 0) v m2 Q := by
            intro v hv
            have hva : g_va s c = if c = 45 then -s.2.2.2.1 else s.2.2.2.1 := by unfold g_va; rw [ea]
            apply xr_m_row1_292
            by_cases q5 : 4294967296 < s.2.2.2.1
            · rw [if_pos q5, if_neg (by decide)]
              refine k1 _ (by decide) (Or.inr ?_)
              rw [hva]
              split <;> omega
            · rw [if_neg q5, if_pos rfl]
              rw [Int.min_eq_left (by omega), ← hva] at hv
              subst hv
              by_cases q6 : g_va s c < -2147483648
              · rw [if_pos q6]; exact k1 _ (by decide) (Or.inr (Or.inl q6))
              · rw [if_neg q6]
                by_cases q7 : 2147483647 < g_va s c
                · rw [if_pos q7]; exact k1 _ (by decide) (Or.inr (Or.inr q7))
                · rw [if_neg q7, w_32_id (by omega) (by omega)]
                  refine k2 (by decide) (fun z => ?_)
                  rcases z with z | z | z
                  · omega
                  · exact q6 z
                  · exact q7 z
          by_cases q8 : c = 45
          · rw [if_pos q8] at fin
            rw [if_pos q8, if_neg (by decide), w_64_id (by omega) (by omega)]
            exact fin _ rfl
          · rw [if_neg q8] at fin
            rw [if_neg q8, if_pos rfl]
            exact fin _ rfl
        · rw [if_neg q4]
          rw [if_neg q4] at ekd
          rw [ekd] at k1 k2 k1b
          rw [w_32_id (by omega) (by omega), show s.2.1 + s.2.2.1 - s.2.2.1 = s.2.1 by omega]
          apply xr_m_realOf
          by_cases q5 : 9 < s.2.1
          · rw [if_pos q5]
            exact k1b (by decide) (Or.inl ⟨by omega, Or.inl q5⟩)
          · rw [if_neg q5]
            by_cases q6 : 9 < s.2.2.1
            · rw [if_pos q6]
              exact k1b (by decide) (Or.inl ⟨by omega, Or.inr q6⟩)
            · rw [if_neg q6]
              have hT2 := hTb (by omega)
              obtain ⟨j, j1, j2, j3⟩ := hsc
              rw [Int.min_eq_left (by omega)]
              exact sp_realOf_27 (d := d) (Q := fun _ m3 => Q 0 m3) (by omega) j1 j2 (by omega) (by omega) hT hT2 hpr hps rfl (fun v hb => k1 v (by decide) hb) (fun hb => k2 (by decide) hb) j 0 (by omega)
  · rw [if_neg q1]
    exact k0 (if_pos (Or.inl q1))
theorem sp_row1_65 {sg mi : Int} (hsg : sg = if W p = 43 ∨ W p = 45 then 1 else 0) (hmi : mi = if W p = 45 then 1 else 0) (hv : v_m n W L) (hL : L ≤ 200000) (hp : n 428 21 = p) (h0 : 0 ≤ p)
    (hQ : ∀ m' : w_M, (∀ a b, ¬ m_rc a b → m' a b = n a b) → m' 428 21 = p + g_len W (L - p).toNat p → m_row m' W L p → Q 0 m') :
    ∀ (q k : Nat), p + k + q = L → g_len W (L - p).toNat p = k + g_len W q (p + k) → ∀ wh ov : Int, wh = min (g_s W p k).2.2.2.1 4294967297 → ov = (if 4294967296 < (g_s W p k).2.2.2.1 then 1 else 0) →
    xp_m_row1_65 (d + 3) sg mi ((g_s W p k).2.1 + (g_s W p k).2.2.1) (g_s W p k).2.2.1 (g_s W p k).1 (g_s W p k).2.2.2.2.2.2 wh (g_s W p k).2.2.2.2.1 ov k n Q := by
  intro q
  have hvo := hv.1
  obtain ⟨v1, v2, v3⟩ := hvo
  -- a byte that is none of the row: the end
  have stop : ∀ (k : Nat), g_len W (L - p).toNat p = k → p + k ≤ L → ¬ b_reg (W (p + k)) → ∀ wh ov : Int, wh = min (g_s W p k).2.2.2.1 4294967297 → ov = (if 4294967296 < (g_s W p k).2.2.2.1 then 1 else 0) → xp_m_row1_65 (d + 3) sg mi ((g_s W p k).2.1 + (g_s W p k).2.2.1) (g_s W p k).2.2.1 (g_s W p k).1 (g_s W p k).2.2.2.2.2.2 wh (g_s W p k).2.2.2.2.1 ov k n Q := by
    intro k hl hk hr wh ov hwh hov
    apply xr_m_row1_65
    refine sp_r_peek hv hp h0 (by omega) (by omega) (by omega) ?_
    refine sp_r_isRegular ?_
    rw [if_neg hr, if_pos rfl]
    refine ⟨by rw [hsg]; split; exact Or.inr rfl; exact Or.inl rfl, ?_⟩
    rw [hwh, hov, hmi]
    have hg := g_ok W p k
    obtain ⟨a1, a2, a3, a4, a5, a6, a7, a8, a9, a10, a11, a12, a13⟩ := hg
    rw [hp, w_32_id (x := p + k) (by omega) (by omega)]
    have same : ∀ v1 v2 v3 x1 x2, m_rc 428 x1 → m_rc 428 x2 → ∀ a b, ¬ m_rc a b → (w_up (w_up (w_up (w_up n 428 21 v1) 428 25 v2) 428 x1 v3) 428 x2 v1) a b = n a b := by
      intro v1 v2 v3 x1 x2 z1 z2 a b hab
      unfold m_rc at hab z1 z2
      unfold w_up
      rw [if_neg (by omega), if_neg (by omega), if_neg (by omega), if_neg (by omega)]
    have same2 : ∀ v1 v2 v3 v4, ∀ a b, ¬ m_rc a b → (w_up (w_up (w_up (w_up n 428 21 v1) 428 25 v2) 428 22 v3) 428 24 v4) a b = n a b := by
      intro v1 v2 v3 v4 a b hab
      unfold m_rc at hab
      unfold w_up
      rw [if_neg (by omega), if_neg (by omega), if_neg (by omega), if_neg (by omega)]
    have same3 : ∀ v1 v2 v3 v4, ∀ a b, ¬ m_rc a b → (w_up (w_up (w_up (w_up n 428 21 v1) 428 25 v2) 428 22 v3) 428 26 v4) a b = n a b := by
      intro v1 v2 v3 v4 a b hab
      unfold m_rc at hab
      unfold w_up
      rw [if_neg (by omega), if_neg (by omega), if_neg (by omega), if_neg (by omega)]
    have same4 : ∀ v1 v2 v3, ∀ a b, ¬ m_rc a b → (w_up (w_up (w_up n 428 21 v1) 428 25 v2) 428 22 v3) a b = n a b := by
      intro v1 v2 v3 a b hab
      unfold m_rc at hab
      unfold w_up
      rw [if_neg (by omega), if_neg (by omega), if_neg (by omega)]
    refine sp_row1_end (d := d + 1) (c := W p) a1 ⟨a3, by omega⟩ ⟨a5, by omega⟩ a8 (fun z => ?_) a10 a11 a12 (fun e => ?_) (fun v e hb => ?_) (fun e hb => ?_) (fun e hb => ?_)
    · have := a9 z
      have := (g_ten (g_s W p k).2.1.toNat (by omega)).2
      omega
    · refine hQ _ (same3 _ _ _ _) ?_ ?_
      · rw [hl, w_up_nb (by decide), w_up_nb (by decide), w_up_nb (by decide), w_up_eq]
      · unfold m_row
        rw [hl]
        refine ⟨by rw [w_up_nb (by decide), w_up_nb (by decide), w_up_eq, hsg], fun _ => ⟨by rw [w_up_nb (by decide), w_up_eq], w_up_eq⟩, fun z => absurd e z⟩
    · refine hQ _ (same2 _ _ _ _) ?_ ?_
      · rw [hl, w_up_nb (by decide), w_up_nb (by decide), w_up_nb (by decide), w_up_eq]
      · unfold m_row
        rw [hl]
        exact ⟨by rw [w_up_nb (by decide), w_up_nb (by decide), w_up_eq, hsg], fun z => absurd z e, fun _ => Or.inl ⟨by rw [w_up_nb (by decide), w_up_eq], hb⟩⟩
    · refine hQ _ (same4 _ _ _) ?_ ?_
      · rw [hl, w_up_nb (by decide), w_up_nb (by decide), w_up_eq]
      · unfold m_row
        rw [hl]
        exact ⟨by rw [w_up_nb (by decide), w_up_eq, hsg], fun z => absurd z e, fun _ => Or.inl ⟨by rw [w_up_eq], hb⟩⟩
    · refine hQ _ (same2 _ _ _ _) ?_ ?_
      · rw [hl, w_up_nb (by decide), w_up_nb (by decide), w_up_nb (by decide), w_up_eq]
      · unfold m_row
        rw [hl]
        exact ⟨by rw [w_up_nb (by decide), w_up_nb (by decide), w_up_eq, hsg], fun z => absurd z e, fun _ => Or.inr ⟨hb, w_up_eq, by rw [w_up_nb (by decide), w_up_eq]⟩⟩
  induction q with
  | zero =>
    intro k hk hl wh ov hwh hov
    exact stop k hl (by omega) (fun z => by have := v3 (p + k) (Or.inr (by omega)); have := z.1; omega) wh ov hwh hov
  | succ q ih =>
    intro k hk hl wh ov hwh hov
    have el : g_len W (q + 1) (p + k) = if b_reg (W (p + k)) then g_len W q (p + k + 1) + 1 else 0 := rfl
    by_cases hr : b_reg (W (p + k))
    · rw [el, if_pos hr] at hl
      have nx := ih (k + 1) (by omega) (by rw [hl, show p + ((k + 1 : Nat) : Int) = p + k + 1 by omega]; omega)
      have hg := g_ok W p k
      have es : g_s W p (k + 1) = g_st (g_s W p k) (W (p + k)) k := rfl
      have hc := v2 (p + k) (by omega) (by omega)
      have h45 : k = 0 → W (p + k) = W p := fun e => by subst e; rw [show p + ((0 : Nat) : Int) = p by omega]
      rw [es] at nx
      apply xr_m_row1_65
      refine sp_r_peek hv hp h0 (by omega) (by omega) (by omega) ?_
      refine sp_r_isRegular ?_
      rw [if_pos hr, if_neg (by decide)]
      refine sp_r_peek hv hp h0 (by omega) (by omega) (by omega) ?_
      refine sp_r_isDigit ?_
      have hov1 : ov = 0 ∨ ov = 1 := by rw [hov]; split; exact Or.inr rfl; exact Or.inl rfl
      generalize g_s W p k = s at hg nx hwh hov ⊢
      obtain ⟨pt, bf, bh, T, pr, sc, wd⟩ := s
      dsimp only at hg nx hwh hov ⊢
      obtain ⟨a1, a2, a3, a4, a5, a6, a7, a8, a9, a10, a11, ⟨j, j1, j2, j3⟩, a12⟩ := hg
      have hj := g_ten j j1
      have hk2 : (k : Int) ≤ 200000 := by omega
      have E1 : w_32 (bf + bh + 1) = bf + bh + 1 := w_32_id (by clear hwh hov a9 hj; omega) (by clear hwh hov a9 hj; omega)
      have E2 : w_32 (bh + 1) = bh + 1 := w_32_id (by clear hwh hov a9 hj; omega) (by clear hwh hov a9 hj; omega)
      have E3 : w_32 (pt + 1) = pt + 1 := w_32_id (by clear hwh hov a9 hj; omega) (by clear hwh hov a9 hj; omega)
      have hw0 : 0 ≤ wh ∧ wh ≤ 4294967297 := by clear hov a9 hj; omega
      generalize hcc : W (p + k) = c at hc nx h45 ⊢
      have e9 : w_32 ((k : Int) + 1) = ((k + 1 : Nat) : Int) := by rw [w_32_id (by omega) (by omega)]; omega
      rw [e9]
      unfold g_st at nx
      by_cases q1 : b_dig c
      · rw [if_pos q1, if_neg (by decide)]
        rw [if_pos q1] at nx
        obtain ⟨d1, d2⟩ := q1
        dsimp only at nx
        rw [E1]
        by_cases q2 : pt = 0
        · rw [if_neg (by omega)]
          rw [if_pos q2] at nx
          dsimp only at nx
          have F1 : w_64 (10 * wh) = 10 * wh := w_64_id (by clear hwh hov a9 hj; omega) (by clear hwh hov a9 hj; omega)
          have F2 : w_64 (10 * wh + c) = 10 * wh + c := w_64_id (by clear hwh hov a9 hj; omega) (by clear hwh hov a9 hj; omega)
          have F3 : w_64 (10 * wh + c - 48) = 10 * wh + c - 48 := w_64_id (by clear hwh hov a9 hj; omega) (by clear hwh hov a9 hj; omega)
          rw [F1, F2, F3]
          rw [show bf + 1 + bh = bf + bh + 1 by omega] at nx
          by_cases q5 : 4294967296 < 10 * wh + c - 48
          · rw [if_pos q5, if_pos q5, w_or_1 hov1]
            have hT : 4294967296 < T * 10 + (c - 48) := by
              rcases Int.le_total T 4294967297 with z | z
              · rw [Int.min_eq_left z] at hwh
                clear hov a9 hj nx; omega
              · clear hwh hov a9 hj nx; omega
            exact nx _ _ (by rw [Int.min_eq_right (by clear hwh hov a9 hj; omega)]) (by rw [if_pos hT])
          · rw [if_neg q5, if_neg q5, w_or_0 hov1]
            have hT12 : ¬ 4294967296 < T ∧ wh = T := by
              rcases Int.le_total T 4294967297 with z | z
              · rw [Int.min_eq_left z] at hwh
                clear hov a9 hj nx
                exact ⟨by omega, hwh⟩
              · rw [Int.min_eq_right z] at hwh
                clear hov a9 hj nx; omega
            obtain ⟨hT, hT2⟩ := hT12
            rw [if_neg hT] at hov
            refine nx _ _ ?_ ?_
            · rw [Int.min_eq_left (by clear hwh hov a9 hj; omega)]
              clear hwh hov a9 hj; omega
            · rw [if_neg (by clear hwh hov a9 hj; omega)]
              exact hov
        · rw [if_pos (by omega)]
          rw [if_neg q2] at nx
          rw [E2]
          by_cases q3 : 9 < bh + 1
          · rw [if_pos q3]
            rw [if_pos q3] at nx
            dsimp only at nx
            rw [show bf + (bh + 1) = bf + bh + 1 by omega] at nx
            exact nx _ _ hwh hov
          · rw [if_neg q3]
            rw [if_neg q3] at nx
            dsimp only at nx
            rw [show bf + (bh + 1) = bf + bh + 1 by omega] at nx
            have F1 : w_64 (10 * pr) = 10 * pr := w_64_id (by clear hwh hov a9; omega) (by clear hwh hov a9; omega)
            have F2 : w_64 (10 * pr + c) = 10 * pr + c := w_64_id (by clear hwh hov a9; omega) (by clear hwh hov a9; omega)
            have F3 : w_64 (10 * pr + c - 48) = 10 * pr + c - 48 := w_64_id (by clear hwh hov a9; omega) (by clear hwh hov a9; omega)
            rw [F1, F2, F3, show 10 * pr + c - 48 = pr * 10 + (c - 48) by omega]
            exact nx _ _ hwh hov
      · rw [if_neg q1, if_pos rfl]
        rw [if_neg q1] at nx
        by_cases q2 : c = 46
        · rw [if_pos q2, E3]
          rw [if_pos q2] at nx
          exact nx _ _ hwh hov
        · rw [if_neg q2]
          rw [if_neg q2] at nx
          by_cases q3 : 0 < (k : Int)
          · rw [if_pos q3, w_or_1 a12]
            rw [if_neg (w_k1 q3)] at nx
            exact nx _ _ hwh hov
          · have hk0 : k = 0 := w_k0 q3
            have hcp := h45 hk0
            rw [if_neg q3]
            by_cases q4 : W p = 43 ∨ W p = 45
            · have q4' : c = 43 ∨ c = 45 := by rw [hcp]; exact q4
              rw [if_pos q4] at hsg
              rw [if_neg (by clear hwh hov a9 hj; omega), w_or_0 a12]
              rw [if_pos ⟨hk0, q4'⟩] at nx
              exact nx _ _ hwh hov
            · have q4' : ¬ (c = 43 ∨ c = 45) := by rw [hcp]; exact q4
              rw [if_neg q4] at hsg
              rw [if_pos hsg, w_or_1 a12]
              rw [if_neg (fun z => q4' z.2)] at nx
              exact nx _ _ hwh hov
    · rw [el, if_neg hr] at hl
      exact stop k hl (by omega) hr wh ov hwh hov
/-- a row of regular bytes at hand is read -/
theorem sp_row1 (hv : v_m n W L) (hL : L ≤ 200000) (hp : n 428 21 = p) (h0 : 0 ≤ p) (h1 : p ≤ L)
    (hQ : ∀ m' : w_M, (∀ a b, ¬ m_rc a b → m' a b = n a b) → m' 428 21 = p + g_len W (L - p).toNat p → m_row m' W L p → Q 0 m') : xc_m_row1 (d + 4) n Q := by
  have key := sp_row1_65 (d := d) (Q := Q) rfl rfl hv hL hp h0 hQ (L - p).toNat 0 (by omega) (by rw [show p + ((0 : Nat) : Int) = p by omega, Nat.zero_add]) 0 0 rfl rfl
  have e0 : g_s W p 0 = (0, 0, 0, 0, 0, 1, 0) := rfl
  rw [e0] at key
  dsimp only at key
  apply xr_m_row1
  refine sp_r_peek hv hp h0 (by omega) (by decide) (by decide) ?_
  rw [Int.add_zero]
  have k25 : xp_m_row1_25 (d + 3) (if W p = 43 ∨ W p = 45 then 1 else 0) n Q := by
    apply xr_m_row1_25
    refine sp_r_peek hv hp h0 (by omega) (by decide) (by decide) ?_
    rw [Int.add_zero]
    by_cases q : W p = 45
    · rw [if_pos q]
      rw [if_pos q] at key
      exact key
    · rw [if_neg q]
      rw [if_neg q] at key
      exact key
  by_cases q1 : W p = 43
  · rw [if_pos q1]
    rw [if_pos (Or.inl q1)] at k25
    exact k25
  · rw [if_neg q1]
    refine sp_r_peek hv hp h0 (by omega) (by decide) (by decide) ?_
    rw [Int.add_zero]
    by_cases q2 : W p = 45
    · rw [if_pos q2]
      rw [if_pos (Or.inr q2)] at k25
      exact k25
    · rw [if_neg q2]
      rw [if_neg (by omega)] at k25
      exact k25
end RM
