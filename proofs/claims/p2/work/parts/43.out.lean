/-! ===== ADLER, out, sum, take ===== -/
/-- ADLER of so many bytes: both halves -/
def a_ad (f : Int → Int) : Nat → Int × Int
  | 0 => (1, 0)
  | k + 1 => (((a_ad f k).1 + f k % 256) % 65521, ((a_ad f k).2 + ((a_ad f k).1 + f k % 256) % 65521) % 65521)
theorem a_ad_r (f : Int → Int) : ∀ k : Nat, (0 ≤ (a_ad f k).1 ∧ (a_ad f k).1 < 65521) ∧ 0 ≤ (a_ad f k).2 ∧ (a_ad f k).2 < 65521 := by
  intro k
  induction k with
  | zero =>
    show ((0 : Int) ≤ 1 ∧ (1 : Int) < 65521) ∧ (0 : Int) ≤ 0 ∧ (0 : Int) < 65521
    decide
  | succ k ih =>
    show (0 ≤ ((a_ad f k).1 + f k % 256) % 65521 ∧ ((a_ad f k).1 + f k % 256) % 65521 < 65521) ∧ 0 ≤ ((a_ad f k).2 + ((a_ad f k).1 + f k % 256) % 65521) % 65521 ∧ ((a_ad f k).2 + ((a_ad f k).1 + f k % 256) % 65521) % 65521 < 65521
    omega
theorem a_ad_eq {f g : Int → Int} : ∀ k : Nat, (∀ i : Nat, i < k → f i = g i) → a_ad f k = a_ad g k := by
  intro k
  induction k with
  | zero => intro _; rfl
  | succ k ih =>
    intro h
    unfold a_ad
    rw [ih (fun i hi => h i (by omega)), h k (by omega)]
section AD
variable {d : Nat} {m : w_M} {Q : Int → w_M → Prop}
/-- one round of ADLER -/
theorem a_step (f : Int → Int) (k : Nat) (x : Int) (hx : f k = x) : Int.tmod (w_32 ((a_ad f k).1 + x % 256)) 65521 = (a_ad f (k + 1)).1 ∧ Int.tmod (w_32 ((a_ad f k).2 + (a_ad f (k + 1)).1)) 65521 = (a_ad f (k + 1)).2 := by
  obtain ⟨⟨h1, h2⟩, h3, h4⟩ := a_ad_r f k
  obtain ⟨⟨g1, g2⟩, g3, g4⟩ := a_ad_r f (k + 1)
  refine ⟨?_, ?_⟩
  · rw [w_32_id (by omega) (by omega), Int.tmod_eq_emod_of_nonneg (by omega), ← hx]
    rfl
  · rw [w_32_id (by omega) (by omega), Int.tmod_eq_emod_of_nonneg (by omega)]
    rfl
/-- a row of bytes: where it stands, from where on, how many -/
theorem sp_wr_adler_l {l0 l1 l2 : Int} (hR : w_isR l0) (hA : w_isA 1 l0) (h1 : 0 ≤ l1) (h2 : 0 ≤ l2) (h3 : l1 + l2 ≤ w_ln l0) (h4 : w_ln l0 < 2147483648) (f : Int → Int) (hf : ∀ i : Int, 0 ≤ i → i < l2 → m l0 (l1 + i) = f i)
    (h : Q (w_32 ((a_ad f l2.toNat).2 * 65536 + (a_ad f l2.toNat).1)) m) : ∀ n k : Nat, n + k = l2.toNat → xp_wr_adler_12 d l0 l1 l2 (a_ad f k).1 (a_ad f k).2 (l1 + k) m Q := by
  intro n
  induction n with
  | zero =>
    intro k hk
    have hk : k = l2.toNat := by omega
    subst hk
    obtain ⟨⟨q1, q2⟩, q3, q4⟩ := a_ad_r f l2.toNat
    apply xr_wr_adler_12
    rw [w_32_id (by omega) (by omega), if_neg (by omega)]
    have e := w_or_apart (a := (a_ad f l2.toNat).2) 16 (by omega) q1 (by show _ < (65536 : Int); omega)
    exact e ▸ h
  | succ n ih =>
    intro k hk
    apply xr_wr_adler_12
    rw [w_32_id (x := l1 + l2) (by omega) (by omega), if_pos (by omega)]
    refine ⟨hR, ?_⟩
    rw [if_pos (by omega)]
    refine ⟨hA, ⟨by omega, by omega⟩, ?_⟩
    obtain ⟨s1, s2⟩ := a_step f k (m l0 (l1 + k)) (hf k (by omega) (by omega)).symm
    rw [s1, s2, w_32_id (x := l1 + k + 1) (by omega) (by omega), show l1 + (k : Int) + 1 = l1 + ((k + 1 : Nat) : Int) by omega]
    exact ih (k + 1) (by omega)
theorem sp_wr_adler {l0 l1 l2 : Int} (hR : w_isR l0) (hA : w_isA 1 l0) (h1 : 0 ≤ l1) (h2 : 0 ≤ l2) (h3 : l1 + l2 ≤ w_ln l0) (h4 : w_ln l0 < 2147483648) (f : Int → Int) (hf : ∀ i : Int, 0 ≤ i → i < l2 → m l0 (l1 + i) = f i)
    (h : Q (w_32 ((a_ad f l2.toNat).2 * 65536 + (a_ad f l2.toNat).1)) m) : xc_wr_adler (d + 1) l0 l1 l2 m Q := by
  apply xr_wr_adler
  rw [Int.max_eq_right h1]
  have := sp_wr_adler_l (d := d) hR hA h1 h2 h3 h4 f hf h l2.toNat 0 (by omega)
  rw [show l1 + ((0 : Nat) : Int) = l1 by omega] at this
  exact this
theorem sp_m_adler_l {l0 l1 : Int} (hA : w_isA 1 l0) (h2 : 0 ≤ l1) (h3 : l1 ≤ w_ln l0) (h4 : w_ln l0 < 2147483648) (f : Int → Int) (hf : ∀ i : Int, 0 ≤ i → i < l1 → m l0 i = f i)
    (h : Q ((a_ad f l1.toNat).2 * 65536 + (a_ad f l1.toNat).1) m) : ∀ n k : Nat, n + k = l1.toNat → xp_m_adler_7 d l0 l1 (a_ad f k).1 (a_ad f k).2 k m Q := by
  intro n
  induction n with
  | zero =>
    intro k hk
    have hk : k = l1.toNat := by omega
    subst hk
    obtain ⟨⟨q1, q2⟩, q3, q4⟩ := a_ad_r f l1.toNat
    apply xr_m_adler_7
    rw [if_neg (by omega), w_lor_16 q3 (by omega) q1 (by omega)]
    exact h
  | succ n ih =>
    intro k hk
    apply xr_m_adler_7
    rw [if_pos (by omega)]
    refine ⟨hA, ⟨by omega, by omega⟩, ?_⟩
    obtain ⟨s1, s2⟩ := a_step f k (m l0 k) (hf k (by omega) (by omega)).symm
    rw [s1, s2, w_32_id (x := (k : Int) + 1) (by omega) (by omega), show (k : Int) + 1 = ((k + 1 : Nat) : Int) by omega]
    exact ih (k + 1) (by omega)
theorem sp_m_adler {l0 l1 : Int} (hA : w_isA 1 l0) (h2 : 0 ≤ l1) (h3 : l1 ≤ w_ln l0) (h4 : w_ln l0 < 2147483648) (f : Int → Int) (hf : ∀ i : Int, 0 ≤ i → i < l1 → m l0 i = f i)
    (h : Q ((a_ad f l1.toNat).2 * 65536 + (a_ad f l1.toNat).1) m) : xc_m_adler (d + 1) l0 l1 m Q := by
  apply xr_m_adler
  exact sp_m_adler_l (d := d) hA h2 h3 h4 f hf h l1.toNat 0 (by omega)
theorem ln_419 : w_ln 419 = 30000 := rfl
theorem ln_431 : w_ln 431 = 30100 := rfl
theorem law_outs (h : q_out m) : xc_x_outs (d + 1) m (fun r m1 => xc_m_outs (d + 1) m1 (fun r' m2 => r' = r ∧ m2 = m)) := by
  apply xr_x_outs
  apply xr_m_outs
  exact ⟨h.1, rfl⟩
theorem law_out {a : Int} (h : q_out m) : xc_x_out (d + 2) a m (fun r m1 => xc_m_out (d + 1) a m1 (fun r' m2 => r' = r ∧ m2 = m)) := by
  obtain ⟨e1, e2, e3, e4⟩ := h
  apply xr_x_out
  apply xr_wr_byteAt
  split
  · apply xr_m_out
    rw [if_pos (by assumption)]
    exact ⟨rfl, rfl⟩
  · split
    · rw [if_pos (by omega)]
      refine ⟨⟨by omega, by omega⟩, ?_⟩
      apply xr_m_out
      rw [if_neg (by assumption), if_pos (by omega)]
      refine ⟨⟨by omega, by omega⟩, ?_, rfl⟩
      rw [e4 a (by omega) (by omega)]
    · apply xr_m_out
      rw [if_neg (by assumption), if_neg (by omega)]
      exact ⟨rfl, rfl⟩
theorem law_sum (h : q_out m) : xc_x_sum (d + 2) m (fun r m1 => xc_m_sum (d + 2) m1 (fun r' m2 => r' = r ∧ m2 = m)) := by
  obtain ⟨e1, e2, e3, e4⟩ := h
  apply xr_x_sum
  refine sp_wr_adler (f := fun i => m 419 i) ⟨1, 30000, rfl, by decide, by decide⟩ ⟨30000, rfl⟩ (by decide) e2 (by rw [ln_419]; omega) (by rw [ln_419]; decide) (fun i q1 q2 => by rw [Int.zero_add]) ?_
  apply xr_m_sum
  rw [e1]
  refine sp_m_adler (f := fun i => m 419 i) ⟨30100, rfl⟩ e2 (by rw [ln_431]; omega) (by rw [ln_431]; decide) (fun i q1 q2 => (e4 i q1 q2).symm) ?_
  exact ⟨rfl, rfl⟩
theorem w_byte_back {b : Int} (h : w_ar 1 b) : w_8 (w_8 (b % 256)) = b := by
  have h : -128 ≤ b ∧ b < 128 := h
  rw [w_8_8]
  unfold w_8
  exact (Int.emod_bmod b 256).trans (w_8_id h.1 h.2)
theorem sp_x_take_l (h0 : 0 ≤ m 418 3) (h1 : m 418 3 ≤ 8000) (hA : ∀ j, w_ar 1 (m 419 j)) : ∀ (n k : Nat), n + k = (m 418 3).toNat → ∀ m1 : w_M, (∀ a b, a ≠ 358 → ¬ (a = 357 ∧ b = 1) → m1 a b = m a b) → m1 357 1 = k → (∀ i : Int, 0 ≤ i → i < k → m1 358 i = m 419 i) →
    (∀ m2 : w_M, (∀ a b, a ≠ 358 → ¬ (a = 357 ∧ b = 1) → m2 a b = m a b) → m2 357 1 = m 418 3 → (∀ i : Int, 0 ≤ i → i < m 418 3 → m2 358 i = m 419 i) → Q (m 418 3) m2) → xp_x_take_22 (d + 1) k m1 Q := by
  intro n
  induction n with
  | zero =>
    intro k hk m1 hs hn hb hQ
    apply xr_x_take_22
    have e : m1 418 3 = m 418 3 := hs _ _ (by omega) (by omega)
    rw [e, if_neg (by omega), hn, show (k : Int) = m 418 3 by omega]
    exact hQ m1 hs (by omega) (fun i q1 q2 => hb i q1 (by omega))
  | succ n ih =>
    intro k hk m1 hs hn hb hQ
    apply xr_x_take_22
    have e : m1 418 3 = m 418 3 := hs _ _ (by omega) (by omega)
    rw [e, if_pos (by omega), if_pos (by omega)]
    apply xr_wr_byteAt
    rw [e, if_neg (by omega), if_pos (by omega), if_pos (by omega)]
    refine ⟨⟨by omega, by omega⟩, ⟨by omega, by omega⟩, ?_⟩
    have e2 : m1 419 k = m 419 k := hs _ _ (by omega) (by omega)
    rw [hn, w_32_id (x := (k : Int) + 1) (by omega) (by omega), e2, w_byte_back (hA k), show (k : Int) + 1 = ((k + 1 : Nat) : Int) by omega]
    refine ih (k + 1) (by omega) _ (fun a b q1 q2 => ?_) w_up_eq (fun i q1 q2 => ?_) hQ
    · unfold w_up
      rw [if_neg q2, if_neg (fun z => q1 z.1)]
      exact hs a b q1 q2
    · rw [w_up_ne (by decide)]
      by_cases hi : i = k
      · subst hi; exact w_up_eq
      · rw [w_up_nb hi]; exact hb i q1 (by omega)
theorem sp_m_take_l (h0 : 0 ≤ m 428 5) (h1 : m 428 5 ≤ 8000) (hA : ∀ j, w_ar 1 (m 431 j)) : ∀ (n k : Nat), n + k = (m 428 5).toNat → ∀ m1 : w_M, (∀ a b, a ≠ 429 → m1 a b = m a b) → (∀ i : Int, 0 ≤ i → i < k → m1 429 i = m 431 i) →
    (∀ m2 : w_M, (∀ a b, a ≠ 429 → ¬ (a = 428 ∧ b = 1) → m2 a b = m a b) → m2 428 1 = m 428 5 → (∀ i : Int, 0 ≤ i → i < m 428 5 → m2 429 i = m 431 i) → Q (m 428 5) m2) → xp_m_take1_14 d k m1 Q := by
  intro n
  induction n with
  | zero =>
    intro k hk m1 hs hb hQ
    apply xr_m_take1_14
    have e : m1 428 5 = m 428 5 := hs _ _ (by decide)
    rw [e, if_neg (by omega)]
    refine hQ _ (fun a b q1 q2 => ?_) w_up_eq (fun i q1 q2 => ?_)
    · unfold w_up
      rw [if_neg q2]
      exact hs a b q1
    · rw [w_up_ne (by decide)]
      exact hb i q1 (by omega)
  | succ n ih =>
    intro k hk m1 hs hb hQ
    apply xr_m_take1_14
    have e : m1 428 5 = m 428 5 := hs _ _ (by decide)
    have e2 : m1 431 k = m 431 k := hs _ _ (by decide)
    have h3 : -128 ≤ m 431 k ∧ m 431 k < 128 := hA k
    rw [e, if_pos (by omega)]
    refine ⟨⟨by omega, by omega⟩, ⟨by omega, by omega⟩, ?_⟩
    rw [w_32_id (x := (k : Int) + 1) (by omega) (by omega), e2, w_8_id h3.1 h3.2, show (k : Int) + 1 = ((k + 1 : Nat) : Int) by omega]
    refine ih (k + 1) (by omega) _ (fun a b q1 => ?_) (fun i q1 q2 => ?_) hQ
    · rw [w_up_ne q1]
      exact hs a b q1
    · by_cases hi : i = k
      · subst hi; exact w_up_eq
      · rw [w_up_nb hi]; exact hb i q1 (by omega)
theorem law_take (hn : w_nm (w_G0 sC) m) (ht : q_tape m) (h : q_out m) : xc_x_take (d + 2) m (fun r m1 => xc_m_take1 (d + 1) m1 (fun r' m2 => r' = r ∧ q_tp m m2)) := by
  obtain ⟨e1, e2, e3, e4⟩ := h
  have hA : ∀ j, w_ar 1 (m 419 j) := fun j => hn.1 419 _ s_419 j
  have hB : ∀ j, w_ar 1 (m 431 j) := fun j => hn.1 431 _ s_431 j
  apply xr_x_take
  split
  · apply xr_m_take1
    rw [e1, if_pos (by assumption)]
    exact ⟨rfl, q_tp.rf ht⟩
  · refine sp_x_take_l (m := m) e2 (by omega) hA (m 418 3).toNat 0 (by omega) _ (fun a b q1 q2 => ?_) w_up_eq (fun i q1 q2 => by omega) (fun m2 s1 s2 s3 => ?_)
    · unfold w_up
      rw [if_neg q2]
    · apply xr_m_take1
      have e5 : m2 428 5 = m 418 3 := (s1 _ _ (by omega) (by omega)).trans e1
      rw [e5, if_neg (by assumption)]
      have hB2 : ∀ j, w_ar 1 (m2 431 j) := fun j => by rw [s1 _ _ (by omega) (by omega)]; exact hB j
      refine sp_m_take_l (m := m2) (by omega) (by omega) hB2 (m2 428 5).toNat 0 (by omega) m2 (fun a b q1 => rfl) (fun i q1 q2 => by omega) (fun m3 t1 t2 t3 => ?_)
      refine ⟨by omega, ⟨?_, ?_, ?_, ?_⟩, fun a b hq => ?_⟩
      · rw [t2, t1 _ _ (by omega) (by omega), s2, e5]
      · rw [t1 _ _ (by omega) (by omega), s2]; exact e2
      · rw [t1 _ _ (by omega) (by omega), s2]; omega
      · rw [t1 _ _ (by omega) (by omega), s2]
        intro i q1 q2
        rw [t1 _ _ (by omega) (by omega), s3 i q1 q2, t3 i q1 (by omega), s1 _ _ (by omega) (by omega), e4 i q1 q2]
      · unfold q_tc at hq
        rw [t1 a b (by omega) (by omega), s1 a b (by omega) (by omega)]
end AD
