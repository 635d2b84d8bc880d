/-! ===== the class looks at a row ===== -/
theorem b_dig_reg {c : Int} (h : b_dig c) : b_reg c := by
  obtain ⟨h1, h2⟩ := h
  exact ⟨by omega, by omega, by omega⟩
theorem f_dig_c {m : w_M} {c : Int} : f_ps_isDigit m c = if b_dig c then 1 else 0 := by
  unfold f_ps_isDigit
  by_cases q : b_dig c
  · obtain ⟨h1, h2⟩ := q
    rw [if_neg (by omega), if_neg (by omega), if_pos ⟨h1, h2⟩]
  · rw [if_neg q]
    split
    · rfl
    · split
      · rfl
      · exact absurd ⟨by omega, by omega⟩ q
theorem sp_c_isDigit {d : Nat} {m : w_M} {c : Int} {Q : Int → w_M → Prop} (h : Q (if b_dig c then 1 else 0) m) : xc_ps_isDigit (d + 1) c m Q := sp_ps_isDigit (by rw [f_dig_c]; exact h)
def g_mk (W : Int → Int) (p : Int) (k : Nat) : Int := if 0 < k ∧ W p = 45 then 1 else 0
def g_sk (W : Int → Int) (p : Int) (k : Nat) : Int := if 0 < k ∧ (W p = 43 ∨ W p = 45) then 1 else 0
section RC
variable {d : Nat} {m : w_M} {P L p : Int} {W : Int → Int} {Q : Int → w_M → Prop}
theorem sp_look_52 (hw : v_c m P W L) (hp : m P 4 = m P 3 + p) (h0 : 0 ≤ p) (h1 : p ≤ L) :
    ∀ (n k : Nat), p + k + n = L → g_len W (L - p).toNat p = k + g_len W n (p + k) →
    xp_ps_lookAtRow_242 (d + 1) P (g_mk W p (g_len W (L - p).toNat p)) (g_s W p (g_len W (L - p).toNat p)).2.2.2.2.2.2 (g_s W p (g_len W (L - p).toNat p)).1 (g_s W p (g_len W (L - p).toNat p)).2.1 (g_s W p (g_len W (L - p).toNat p)).2.2.1 (min (g_s W p (g_len W (L - p).toNat p)).2.2.2.1 1099511627776) (g_s W p (g_len W (L - p).toNat p)).2.2.2.2.1 (g_s W p (g_len W (L - p).toNat p)).2.2.2.2.2.1 (m P 3 + p + g_len W (L - p).toNat p) (w_up (w_up m P 11 (m P 4)) P 16 (g_sk W p (g_len W (L - p).toNat p))) Q →
    xp_ps_lookAtRow_52 (d + 1) P (g_mk W p k) (g_s W p k).2.2.2.2.2.2 (g_s W p k).1 (g_s W p k).2.1 (g_s W p k).2.2.1 (min (g_s W p k).2.2.2.1 1099511627776) (g_s W p k).2.2.2.2.1 (g_s W p k).2.2.2.2.2.1 (m P 3 + p + k) (w_up (w_up m P 11 (m P 4)) P 16 (g_sk W p k)) Q := by
  intro n
  have hP := hw.2.1
  have hv := hw
  obtain ⟨⟨v1, v2, v3⟩, h2, h3, h4, h4b, h5, h6, h7, h8, h9⟩ := hw
  induction n with
  | zero =>
    intro k hk hl h
    have hl : g_len W (L - p).toNat p = k := hl
    rw [hl] at h
    apply xr_ps_lookAtRow_52 hP
    rw [w_up_nb (by decide), w_up_nb (by decide), if_neg (by omega)]
    exact h
  | succ n ih =>
    intro k hk hl h
    have hg := g_ok W p k
    have es : g_s W p (k + 1) = g_st (g_s W p k) (W (p + k)) k := rfl
    have hc := v2 (p + k) (by omega) (by omega)
    have hmv : v_c (w_up (w_up m P 11 (m P 4)) P 16 (g_sk W p k)) P W L := (hv.up (by decide)).up (by decide)
    have el : g_len W (n + 1) (p + k) = if b_reg (W (p + k)) then g_len W n (p + k + 1) + 1 else 0 := rfl
    -- the next round, once the byte is a regular one
    have next : b_reg (W (p + k)) → ∀ mk, mk = w_up (w_up m P 11 (m P 4)) P 16 (g_sk W p (k + 1)) → ∀ a1 a2 a3 a4 a5 a6 a7 a8 a9, a1 = g_mk W p (k + 1) → a2 = (g_s W p (k + 1)).2.2.2.2.2.2 → a3 = (g_s W p (k + 1)).1 → a4 = (g_s W p (k + 1)).2.1 → a5 = (g_s W p (k + 1)).2.2.1 → a6 = min (g_s W p (k + 1)).2.2.2.1 1099511627776 → a7 = (g_s W p (k + 1)).2.2.2.2.1 → a8 = (g_s W p (k + 1)).2.2.2.2.2.1 → a9 = m P 3 + p + k + 1 → xp_ps_lookAtRow_52 (d + 1) P a1 a2 a3 a4 a5 a6 a7 a8 a9 mk Q := by
      intro hr mk e0 a1 a2 a3 a4 a5 a6 a7 a8 a9 e1 e2 e3 e4 e5 e6 e7 e8 e9
      subst e0 e1 e2 e3 e4 e5 e6 e7 e8 e9
      rw [el, if_pos hr] at hl
      have := ih (k + 1) (by omega) (by rw [hl, show p + ((k + 1 : Nat) : Int) = p + k + 1 by omega]; omega) h
      rw [show m P 3 + p + ((k + 1 : Nat) : Int) = m P 3 + p + k + 1 by omega] at this
      exact this
    -- the end, once it is none
    have stop : ¬ b_reg (W (p + k)) → xp_ps_lookAtRow_242 (d + 1) P (g_mk W p k) (g_s W p k).2.2.2.2.2.2 (g_s W p k).1 (g_s W p k).2.1 (g_s W p k).2.2.1 (min (g_s W p k).2.2.2.1 1099511627776) (g_s W p k).2.2.2.2.1 (g_s W p k).2.2.2.2.2.1 (m P 3 + p + k) (w_up (w_up m P 11 (m P 4)) P 16 (g_sk W p k)) Q := by
      intro hr
      rw [el, if_neg hr] at hl
      have hl : g_len W (L - p).toNat p = k := hl
      rw [hl] at h
      exact h
    have mk1 : 0 < k → g_mk W p (k + 1) = g_mk W p k := fun q => by unfold g_mk; simp only [show 0 < k + 1 by omega, q]
    have sk1 : 0 < k → g_sk W p (k + 1) = g_sk W p k := fun q => by unfold g_sk; simp only [show 0 < k + 1 by omega, q]
    have m10 : W (p + k) ≠ 45 → g_mk W p (k + 1) = g_mk W p k := fun q => by
      rcases Nat.eq_zero_or_pos k with e | e
      · subst e
        have q : W p ≠ 45 := by rw [show p + ((0 : Nat) : Int) = p by omega] at q; exact q
        unfold g_mk
        rw [if_neg (fun z => q z.2), if_neg (fun z => q z.2)]
      · exact mk1 e
    have s10 : W (p + k) ≠ 43 → W (p + k) ≠ 45 → g_sk W p (k + 1) = g_sk W p k := fun q q' => by
      rcases Nat.eq_zero_or_pos k with e | e
      · subst e
        rw [show p + ((0 : Nat) : Int) = p by omega] at q q'
        unfold g_sk
        rw [if_neg (by omega), if_neg (by omega)]
      · exact sk1 e
    have h12 : (w_up (w_up m P 11 (m P 4)) P 16 (g_sk W p k)) P 4 = m P 3 + p := by rw [w_up_nb (by decide), w_up_nb (by decide), hp]
    rw [es] at next
    generalize hs : g_s W p k = s at hg next stop ⊢
    obtain ⟨pt, bf, bh, T, pr, sc, wd⟩ := s
    dsimp only at hg next stop ⊢
    obtain ⟨a1, a2, a3, a4, a5, a6, a7, a8, a9, a10, a11, ⟨j, j1, j2, j3⟩, a12⟩ := hg
    have hj := g_ten j j1
    apply xr_ps_lookAtRow_52 hP
    rw [w_up_nb (by decide), w_up_nb (by decide), if_pos (by omega)]
    refine sp_ps_at hmv (i := p + k) (by rw [w_up_nb (by decide), w_up_nb (by decide)]; omega) ?_
    refine sp_c_isDigit ?_
    generalize hcc : W (p + k) = c at hc next stop m10 s10 ⊢
    have e9 : w_32 (m P 3 + p + k + 1) = m P 3 + p + k + 1 := w_32_id (by omega) (by omega)
    by_cases q1 : b_dig c
    · have hr := b_dig_reg q1
      obtain ⟨d1, d2⟩ := q1
      have q1 : b_dig c := ⟨d1, d2⟩
      rw [if_pos q1, if_neg (by decide)]
      unfold g_st at next
      rw [if_pos q1] at next
      dsimp only at next
      by_cases q2 : pt = 0
      · rw [if_pos q2]
        rw [if_pos q2] at next
        refine next hr _ (by rw [s10 (by omega) (by omega)]) _ _ _ _ _ _ _ _ _ (m10 (by omega)).symm rfl rfl (w_32_id (by omega) (by omega)) rfl ?_ rfl rfl e9
        rw [w_32_id (x := c - 48) (by omega) (by omega), w_64_id (x := min T 1099511627776 * 10) (by omega) (by omega), w_64_id (by omega) (by omega)]
        dsimp only
        omega
      · rw [if_neg q2]
        rw [if_neg q2] at next
        apply xr_ps_lookAtRow_108 hP
        refine sp_c_isDigit ?_
        rw [if_pos q1, if_neg (by decide), w_32_id (x := bh + 1) (by omega) (by omega)]
        by_cases q3 : 9 < bh + 1
        · rw [if_pos q3, if_pos q3]
          rw [if_pos q3] at next
          exact next hr _ (by rw [s10 (by omega) (by omega)]) _ _ _ _ _ _ _ _ _ (m10 (by omega)).symm rfl rfl rfl rfl rfl rfl rfl e9
        · rw [if_neg q3, if_neg q3]
          rw [if_neg q3] at next
          refine next hr _ (by rw [s10 (by omega) (by omega)]) _ _ _ _ _ _ _ _ _ (m10 (by omega)).symm rfl rfl rfl rfl rfl ?_ ?_ e9
          · rw [w_32_id (x := c - 48) (by omega) (by omega), w_64_id (x := pr * 10) (by omega) (by omega), w_64_id (by omega) (by omega)]
          · exact w_64_id (by omega) (by omega)
    · rw [if_neg q1, if_pos rfl]
      unfold g_st at next
      rw [if_neg q1] at next
      apply xr_ps_lookAtRow_108 hP
      refine sp_c_isDigit ?_
      rw [if_neg q1, if_pos rfl]
      by_cases q2 : c = 46
      · rw [if_pos q2]
        rw [if_pos q2] at next
        exact next (by rw [q2]; decide) _ (by rw [s10 (by omega) (by omega)]) _ _ _ _ _ _ _ _ _ (m10 (by omega)).symm rfl (w_32_id (by omega) (by omega)) rfl rfl rfl rfl rfl e9
      · rw [if_neg q2]
        rw [if_neg q2] at next
        rw [h12]
        by_cases q3 : m P 3 + p + k = m P 3 + p
        · have hk0 : k = 0 := by omega
          subst hk0
          rw [if_pos q3]
          rw [show p + ((0 : Nat) : Int) = p by omega] at hcc
          by_cases q4 : c = 43
          · rw [if_pos q4, if_neg (by omega)]
            rw [if_pos ⟨rfl, Or.inl q4⟩] at next
            refine next (by rw [q4]; decide) _ ?_ _ _ _ _ _ _ _ _ _ ?_ rfl rfl rfl rfl rfl rfl rfl e9
            · rw [w_up_up]
              unfold g_sk
              rw [if_pos (by omega)]
            · unfold g_mk
              rw [if_neg (by omega)]
          · rw [if_neg q4]
            by_cases q5 : c = 45
            · rw [if_pos q5, if_pos q5]
              rw [if_pos ⟨rfl, Or.inr q5⟩] at next
              refine next (by rw [q5]; decide) _ ?_ _ _ _ _ _ _ _ _ _ ?_ rfl rfl rfl rfl rfl rfl rfl e9
              · rw [w_up_up]
                unfold g_sk
                rw [if_pos (by omega)]
              · unfold g_mk
                rw [if_pos (by omega)]
            · rw [if_neg q5]
              rw [if_neg (by omega)] at next
              refine sp_c_isRegular (by omega) ?_
              by_cases q6 : b_reg c
              · rw [if_pos q6, if_neg (by decide)]
                exact next q6 _ (by rw [s10 (by omega) (by omega)]) _ _ _ _ _ _ _ _ _ (m10 (by omega)).symm rfl rfl rfl rfl rfl rfl rfl e9
              · rw [if_neg q6, if_pos rfl]
                exact stop q6
        · rw [if_neg q3]
          rw [if_neg (by omega)] at next
          refine sp_c_isRegular (by omega) ?_
          by_cases q6 : b_reg c
          · rw [if_pos q6, if_neg (by decide)]
            exact next q6 _ (by rw [sk1 (by omega)]) _ _ _ _ _ _ _ _ _ (mk1 (by omega)).symm rfl rfl rfl rfl rfl rfl rfl e9
          · rw [if_neg q6, if_pos rfl]
            exact stop q6
theorem g_ten2 : ∀ j : Nat, j ≤ 9 → (10 : Int) ^ j ≤ 1000000000 := fun j h => (g_ten j h).2
/-- the end of a look: kind, number, whether it is beyond -/
theorem sp_look_328 {m1 : w_M} {s : g_t} {c v : Int} (hP : w_isP P) (hT : 0 ≤ s.2.2.2.1) (hTb : s.2.1 ≤ 9 → s.2.2.2.1 < 1000000000) (hpr : 0 ≤ s.2.2.2.2.1) (hsc : s.2.2.2.2.1 < s.2.2.2.2.2.1) (hsc2 : s.2.2.2.2.2.1 ≤ 1000000000)
    (hv : v = (if c = 45 then -(if s.1 = 1 then min s.2.2.2.1 1099511627776 * 65536 + (s.2.2.2.2.1 * 131072 + s.2.2.2.2.2.1) / (2 * s.2.2.2.2.2.1) else min s.2.2.2.1 1099511627776) else (if s.1 = 1 then min s.2.2.2.1 1099511627776 * 65536 + (s.2.2.2.2.1 * 131072 + s.2.2.2.2.2.1) / (2 * s.2.2.2.2.2.1) else min s.2.2.2.1 1099511627776)))
    (h1 : g_by s c → Q 0 (w_up (w_up m1 P 14 (w_32 v)) P 15 1)) (h2 : ¬ g_by s c → w_32 v = g_va s c → Q 0 (w_up (w_up m1 P 14 (w_32 v)) P 15 0)) : xp_ps_lookAtRow_328 (d + 1) P s.1 s.2.1 s.2.2.1 v m1 Q := by
  apply xr_ps_lookAtRow_328 hP
  obtain ⟨pt, bf, bh, T, pr, sc, wd⟩ := s
  unfold g_by g_va g_ab at h1 h2
  dsimp only at hT hTb hpr hsc hsc2 hv h1 h2 ⊢
  by_cases q1 : pt = 1
  · rw [if_pos q1] at hv h1 h2
    rw [if_pos q1]
    have hq0 : 0 ≤ (pr * 131072 + sc) / (2 * sc) := Int.ediv_nonneg (by omega) (by omega)
    have hq1 : (pr * 131072 + sc) / (2 * sc) < 65537 := Int.ediv_lt_of_lt_mul (by omega) (by omega)
    generalize (pr * 131072 + sc) / (2 * sc) = q at hv h1 h2 hq0 hq1
    by_cases q2 : 9 < bf
    · rw [if_pos q2]
      exact h1 (Or.inl ⟨q1, Or.inl q2⟩)
    · rw [if_neg q2]
      by_cases q3 : 9 < bh
      · rw [if_pos q3]
        exact h1 (Or.inl ⟨q1, Or.inr q3⟩)
      · rw [if_neg q3]
        have hT2 := hTb (by omega)
        have em : min T 1099511627776 = T := Int.min_eq_left (by omega)
        rw [em] at hv
        by_cases q4 : v < -2147483648
        · rw [if_pos q4]
          exact h1 (Or.inr (Or.inl (by rw [← hv]; exact q4)))
        · rw [if_neg q4]
          by_cases q5 : 2147483647 < v
          · rw [if_pos q5]
            exact h1 (Or.inr (Or.inr (by rw [← hv]; exact q5)))
          · rw [if_neg q5]
            refine h2 (fun z => ?_) (by rw [← hv]; exact w_32_id (by omega) (by omega))
            rw [← hv] at z
            omega
  · rw [if_neg q1] at hv h1 h2
    rw [if_neg q1]
    by_cases q6 : T ≤ 1099511627776
    · rw [Int.min_eq_left q6] at hv
      by_cases q4 : v < -2147483648
      · rw [if_pos q4]
        exact h1 (Or.inr (Or.inl (by rw [← hv]; exact q4)))
      · rw [if_neg q4]
        by_cases q5 : 2147483647 < v
        · rw [if_pos q5]
          exact h1 (Or.inr (Or.inr (by rw [← hv]; exact q5)))
        · rw [if_neg q5]
          refine h2 (fun z => ?_) (by rw [← hv]; exact w_32_id (by omega) (by omega))
          rw [← hv] at z
          omega
    · rw [Int.min_eq_right (by omega)] at hv
      by_cases q7 : c = 45
      · rw [if_pos q7] at hv h1
        rw [if_pos (by omega)]
        exact h1 (Or.inr (Or.inl (by omega)))
      · rw [if_neg q7] at hv h1
        rw [if_neg (by omega), if_pos (by omega)]
        exact h1 (Or.inr (Or.inr (by omega)))
theorem sp_look_242 {m1 : w_M} {s : g_t} {c mi e : Int} (hP : w_isP P) (hpt : 0 ≤ s.1) (hbf : 0 ≤ s.2.1 ∧ s.2.1 ≤ 300000) (hbh : 0 ≤ s.2.2.1 ∧ s.2.2.1 ≤ 300000) (hT : 0 ≤ s.2.2.2.1) (hTb : s.2.1 ≤ 9 → s.2.2.2.1 < 1000000000) (hpr : 0 ≤ s.2.2.2.2.1) (hsc : s.2.2.2.2.1 < s.2.2.2.2.2.1) (hsc2 : s.2.2.2.2.2.1 ≤ 1000000000) (hmi : mi = if c = 45 then 1 else 0)
    (h1 : ∀ v, g_by s c → Q 0 (w_up (w_up (w_up (w_up m1 P 12 e) P 13 (g_kd s)) P 14 v) P 15 1)) (h2 : ¬ g_by s c → Q 0 (w_up (w_up (w_up (w_up m1 P 12 e) P 13 (g_kd s)) P 14 (g_va s c)) P 15 0)) : xp_ps_lookAtRow_242 (d + 1) P mi s.2.2.2.2.2.2 s.1 s.2.1 s.2.2.1 (min s.2.2.2.1 1099511627776) s.2.2.2.2.1 s.2.2.2.2.2.1 e m1 Q := by
  have key : xp_ps_lookAtRow_279 (d + 1) P mi s.1 s.2.1 s.2.2.1 (min s.2.2.2.1 1099511627776) s.2.2.2.2.1 s.2.2.2.2.2.1 (g_kd s) (w_up m1 P 12 e) Q := by
    apply xr_ps_lookAtRow_279 hP
    have fin : ∀ v, v = (if c = 45 then -(if s.1 = 1 then min s.2.2.2.1 1099511627776 * 65536 + (s.2.2.2.2.1 * 131072 + s.2.2.2.2.2.1) / (2 * s.2.2.2.2.2.1) else min s.2.2.2.1 1099511627776) else (if s.1 = 1 then min s.2.2.2.1 1099511627776 * 65536 + (s.2.2.2.2.1 * 131072 + s.2.2.2.2.2.1) / (2 * s.2.2.2.2.2.1) else min s.2.2.2.1 1099511627776)) → xp_ps_lookAtRow_328 (d + 1) P s.1 s.2.1 s.2.2.1 v (w_up (w_up m1 P 12 e) P 13 (g_kd s)) Q := fun v hv =>
      sp_look_328 hP hT hTb hpr hsc hsc2 hv (fun q => h1 _ q) (fun q e2 => by rw [e2]; exact h2 q)
    have hq0 : 0 ≤ (s.2.2.2.2.1 * 131072 + s.2.2.2.2.2.1) / (2 * s.2.2.2.2.2.1) := Int.ediv_nonneg (by omega) (by omega)
    have hq1 : (s.2.2.2.2.1 * 131072 + s.2.2.2.2.2.1) / (2 * s.2.2.2.2.2.1) < 65537 := Int.ediv_lt_of_lt_mul (by omega) (by omega)
    have hz : w_ldiv (w_64 (w_64 (s.2.2.2.2.1 * 131072) + s.2.2.2.2.2.1)) (max 1 (w_64 (2 * s.2.2.2.2.2.1))) = (s.2.2.2.2.1 * 131072 + s.2.2.2.2.2.1) / (2 * s.2.2.2.2.2.1) := by
      rw [w_64_id (x := s.2.2.2.2.1 * 131072) (by omega) (by omega), w_64_id (x := 2 * s.2.2.2.2.2.1) (by omega) (by omega), w_64_id (by omega) (by omega), Int.max_eq_right (by omega), w_ldiv_p (by omega) (by omega) (by omega) (by omega)]
    rw [hz]
    by_cases q1 : s.1 = 1
    · rw [if_pos q1]
      refine ⟨by omega, ?_⟩
      rw [if_pos q1] at fin
      rw [w_64_id (x := min s.2.2.2.1 1099511627776 * 65536) (by omega) (by omega), w_64_id (x := min s.2.2.2.1 1099511627776 * 65536 + (s.2.2.2.2.1 * 131072 + s.2.2.2.2.2.1) / (2 * s.2.2.2.2.2.1)) (by omega) (by omega)]
      by_cases q2 : c = 45
      · rw [if_pos q2] at hmi fin
        rw [if_neg (by omega), w_64_id (by omega) (by omega)]
        exact fin _ rfl
      · rw [if_neg q2] at hmi fin
        rw [if_pos hmi]
        exact fin _ rfl
    · rw [if_neg q1]
      rw [if_neg q1] at fin
      by_cases q2 : c = 45
      · rw [if_pos q2] at hmi fin
        rw [if_neg (by omega), w_64_id (by omega) (by omega)]
        exact fin _ rfl
      · rw [if_neg q2] at hmi fin
        rw [if_pos hmi]
        exact fin _ rfl
  apply xr_ps_lookAtRow_242 hP
  unfold g_kd at key
  rw [w_32_id (x := s.2.1 + s.2.2.1) (by omega) (by omega)]
  by_cases q1 : s.2.2.2.2.2.2 = 0
  · rw [if_pos q1]
    by_cases q2 : 1 < s.1
    · rw [if_pos q2]
      rw [if_pos (Or.inr (Or.inl q2))] at key
      exact key
    · rw [if_neg q2]
      by_cases q3 : s.2.1 + s.2.2.1 = 0
      · rw [if_pos q3]
        rw [if_pos (Or.inr (Or.inr q3))] at key
        exact key
      · rw [if_neg q3]
        rw [if_neg (by omega)] at key
        by_cases q4 : s.1 = 0
        · rw [if_pos q4]
          rw [if_pos q4] at key
          exact key
        · rw [if_neg q4]
          rw [if_neg q4] at key
          exact key
  · rw [if_neg q1]
    rw [if_pos (Or.inl q1)] at key
    exact key
/-- the row at pos is looked at: its end, kind, number -/
theorem sp_lookAtRow (hw : v_c m P W L) (hp : m P 4 = m P 3 + p) (h0 : 0 ≤ p) (h1 : p ≤ L) (hn : m P 11 ≠ m P 4)
    (hQ : ∀ m' : w_M, (∀ a b, ¬ (a = P ∧ 11 ≤ b ∧ b ≤ 16) → m' a b = m a b) → m' P 11 = m P 4 → c_row m' P W L p → Q 0 m') : xc_ps_lookAtRow (d + 2) P m Q := by
  apply xr_ps_lookAtRow hw.2.1
  rw [if_neg hn]
  have hL : L ≤ 200000 := by
    obtain ⟨⟨v1, v2, v3⟩, h2, h3, h4, h4b, h5, h6, h7, h8, h9⟩ := hw
    omega
  have key := sp_look_52 (d := d) (Q := Q) hw hp h0 h1 (L - p).toNat 0 (by omega) (by rw [show p + ((0 : Nat) : Int) = p by omega, Nat.zero_add])
  rw [show m P 3 + p + ((0 : Nat) : Int) = m P 4 by omega] at key
  refine key ?_
  clear key
  have hk := g_len_le W (L - p).toNat p
  have hg := g_ok W p (g_len W (L - p).toNat p)
  obtain ⟨a1, a2, a3, a4, a5, a6, a7, a8, a9, a10, a11, ⟨j, j1, j2, j3⟩, a12⟩ := hg
  have hj := g_ten j j1
  have hreg : (W p = 43 ∨ W p = 45) → 0 < g_len W (L - p).toNat p := by
    intro q
    have hpL : p < L := by
      rcases Int.lt_or_le p L with z | z
      · exact z
      · have := hw.1.2.2 p (Or.inr z); omega
    obtain ⟨i, hi⟩ : ∃ i, (L - p).toNat = i + 1 := ⟨(L - p).toNat - 1, by omega⟩
    rw [hi]
    have e : g_len W (i + 1) p = if b_reg (W p) then g_len W i (p + 1) + 1 else 0 := rfl
    rw [e, if_pos (by rcases q with q | q <;> (rw [q]; decide))]
    omega
  have hmk : g_mk W p (g_len W (L - p).toNat p) = if W p = 45 then 1 else 0 := by
    unfold g_mk
    by_cases q : W p = 45
    · rw [if_pos ⟨hreg (Or.inr q), q⟩, if_pos q]
    · rw [if_neg (fun z => q z.2), if_neg q]
  have hsk : g_sk W p (g_len W (L - p).toNat p) = if W p = 43 ∨ W p = 45 then 1 else 0 := by
    unfold g_sk
    by_cases q : W p = 43 ∨ W p = 45
    · rw [if_pos ⟨hreg q, q⟩, if_pos q]
    · rw [if_neg (fun z => q z.2), if_neg q]
  have same : ∀ (v1 v2 v3 v4 : Int), (∀ a b, ¬ (a = P ∧ 11 ≤ b ∧ b ≤ 16) → (w_up (w_up (w_up (w_up (w_up (w_up m P 11 (m P 4)) P 16 (g_sk W p (g_len W (L - p).toNat p))) P 12 v1) P 13 v2) P 14 v3) P 15 v4) a b = m a b) := by
    intro v1 v2 v3 v4 a b hab
    unfold w_up
    rw [if_neg (by omega), if_neg (by omega), if_neg (by omega), if_neg (by omega), if_neg (by omega), if_neg (by omega)]
  refine sp_look_242 (c := W p) hw.2.1 a1 ⟨a3, by omega⟩ ⟨a5, by omega⟩ a8 (fun q => ?_) a10 a11 (by omega) hmk (fun v hb => ?_) (fun hb => ?_)
  · have := a9 q
    have := g_ten2 (g_s W p (g_len W (L - p).toNat p)).2.1.toNat (by omega)
    omega
  · refine hQ _ (same _ _ _ _) ?_ ⟨?_, ?_, Or.inl ⟨w_up_eq, hb⟩, ?_⟩
    · rw [w_up_nb (by decide), w_up_nb (by decide), w_up_nb (by decide), w_up_nb (by decide), w_up_nb (by decide), w_up_eq]
    · rw [w_up_nb (by decide), w_up_nb (by decide), w_up_nb (by decide), w_up_eq, same _ _ _ _ _ _ (by omega)]
    · rw [w_up_nb (by decide), w_up_nb (by decide), w_up_eq]
    · rw [w_up_nb (by decide), w_up_nb (by decide), w_up_nb (by decide), w_up_nb (by decide), w_up_eq, hsk]
  · refine hQ _ (same _ _ _ _) ?_ ⟨?_, ?_, Or.inr ⟨w_up_eq, hb, ?_⟩, ?_⟩
    · rw [w_up_nb (by decide), w_up_nb (by decide), w_up_nb (by decide), w_up_nb (by decide), w_up_nb (by decide), w_up_eq]
    · rw [w_up_nb (by decide), w_up_nb (by decide), w_up_nb (by decide), w_up_eq, same _ _ _ _ _ _ (by omega)]
    · rw [w_up_nb (by decide), w_up_nb (by decide), w_up_eq]
    · rw [w_up_nb (by decide), w_up_eq]
    · rw [w_up_nb (by decide), w_up_nb (by decide), w_up_nb (by decide), w_up_nb (by decide), w_up_eq, hsk]
end RC
