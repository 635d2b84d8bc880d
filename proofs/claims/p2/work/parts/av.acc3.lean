/-! ===== the accessors: count, pages, glyphs ===== -/
section AF
variable {d e : Nat} {g g' : s_g} {m m' m0 m1 m2 n n' n0 n1 n2 : w_M} {Q R : Int → w_M → Prop} {k x y z i j a b v r w l : Int}
theorem a_ich (h : o_I g m n) (hc : d_cnt m n) (hk : 0 ≤ k ∧ k < 200) : k_ta_isChanged m k ∧ f_ta_isChanged m k = if n 460 k = 0 then 0 else 1 := by
  obtain ⟨e1, e2⟩ := hc.2.2.2.2.2 k hk.1 hk.2
  unfold k_ta_isChanged f_ta_isChanged
  by_cases hu : o_u n k
  · obtain ⟨s1, s2⟩ := a_isf_y h hu
    rw [s2, if_pos rfl, if_pos rfl]
    refine ⟨⟨s1, by omega⟩, ?_⟩
    by_cases q : n 460 k = 0
    · rw [if_pos q, if_pos (e1.mpr q)]
    · rw [if_neg q, if_neg (fun u => q (e1.mp u))]
  · obtain ⟨s1, s2⟩ := a_isf_n h hu
    rw [s2, if_neg (show ¬ (1 : Int) = 0 by decide), if_neg (show ¬ (1 : Int) = 0 by decide)]
    refine ⟨⟨s1, trivial⟩, ?_⟩
    by_cases q : n 460 k = 0
    · rw [if_pos q]
    · exact absurd (e2 q) hu
theorem c_chg (h : o_I g m n) (hc : d_cnt m n) : ∀ (K j : Nat), j + K = 200 → 1 ≤ j → Q (a_cb n 200) m → xp_ta_changes_4 (d + 2) (a_cb n j) (j : Int) m Q := by
  intro K
  induction K with
  | zero =>
    intro j hj j1 hQ
    have : j = 200 := by omega
    subst this
    apply xr_ta_changes_4
    rw [if_neg (by decide)]
    exact hQ
  | succ K ih =>
    intro j hj j1 hQ
    have cb := a_cb_b (n := n) j
    have step : xp_ta_changes_4 (d + 2) (a_cb n (j + 1)) ((j + 1 : Nat) : Int) m Q := ih (j + 1) (by omega) (by omega) hQ
    have es : a_cb n (j + 1) = a_cb n j + (if n 460 (j : Int) = 0 then 0 else 1) := rfl
    obtain ⟨s1, s2⟩ := a_ich (k := (j : Int)) h hc (by omega)
    apply xr_ta_changes_4
    rw [if_pos (by omega), w_32_id (x := (j : Int) + 1) (by omega) (by omega), w_32_id (x := a_cb n j + 1) (by omega) (by omega)]
    refine sp_ta_isChanged (d := d) s1 ?_
    rw [s2]
    by_cases q : n 460 (j : Int) = 0
    · rw [if_pos q, if_pos rfl]
      rw [es, if_pos q, Int.add_zero] at step
      exact step
    · rw [if_neg q, if_neg (show ¬ (1 : Int) = 0 by decide)]
      rw [es, if_neg q] at step
      exact step
theorem a_cb_top (hz : ∀ k, n 428 60 ≤ k → k < 200 → n 460 k = 0) : ∀ j : Nat, n 428 60 ≤ (j : Int) → j ≤ 200 → 0 ≤ n 428 60 → a_cb n j = a_cb n (n 428 60).toNat := by
  intro j
  induction j with
  | zero =>
    intro h1 h2 h3
    rw [show (n 428 60).toNat = 0 by omega]
  | succ j ih =>
    intro h1 h2 h3
    by_cases q : n 428 60 ≤ (j : Int)
    · show a_cb n j + (if n 460 (j : Int) = 0 then 0 else 1) = _
      rw [if_pos (hz _ q (by omega)), Int.add_zero]
      exact ih q (by omega) h3
    · rw [show (n 428 60).toNat = j + 1 by omega]
theorem r_cnt (hl : n 428 60 ≤ 200) : ∀ (K j : Nat), (j : Int) + K = n 428 60 → (if w = 0 then Q (n 428 60) n else if w = 1 then Q (n 428 81) n else if w = 2 then Q (n 428 82) n else if w = 3 then Q (n 428 61) n else if w = 4 then (if n 428 63 = 0 then Q 0 n else Q 1 n) else if w = 5 then Q (w_32 (n 463 0)) n else if w = 6 then Q (a_cb n (j + K)) n else Q (-1) n) → xp_m_count_13 d w (a_cb n j) (j : Int) n Q := by
  intro K
  induction K with
  | zero =>
    intro j hj hQ
    apply xr_m_count_13
    rw [if_neg (by omega)]
    exact hQ
  | succ K ih =>
    intro j hj hQ
    have cb := a_cb_b (n := n) j
    have step : xp_m_count_13 d w (a_cb n (j + 1)) ((j + 1 : Nat) : Int) n Q := ih (j + 1) (by omega) (by rw [show j + 1 + K = j + (K + 1) by omega]; exact hQ)
    have es : a_cb n (j + 1) = a_cb n j + (if n 460 (j : Int) = 0 then 0 else 1) := rfl
    apply xr_m_count_13
    rw [if_pos (by omega), w_32_id (x := (j : Int) + 1) (by omega) (by omega), w_32_id (x := a_cb n j + 1) (by omega) (by omega), w_32_id (x := a_cb n j + 0) (by omega) (by omega)]
    refine ⟨by omega, z_ite (fun q => ?_) (fun q => ?_)⟩
    · rw [es, if_pos q] at step
      exact step
    · rw [es, if_neg q] at step
      exact step
theorem s_count (h : d_ac g m n) (hc : n 428 6 = 1 → d_cnt m n) : ∃ r, (∀ X : Int → w_M → Prop, X r m → xc_x_count (d + 5) w m X) ∧ (∀ X : Int → w_M → Prop, X r n → xc_m_count (e + 1) w n X) := by
  rcases h with ⟨h1, h2, h3⟩ | ⟨h1, h2, oI, cu⟩
  · refine ⟨-1, fun X hX => ?_, fun X hX => ?_⟩
    · apply xr_x_count
      rw [if_pos h1]
      exact hX
    · apply xr_m_count
      rw [if_pos h2]
      exact hX
  · have hc := hc h2
    obtain ⟨c1, c2, ⟨c3, c3'⟩, c4, ⟨c5, c5', c5''⟩, c6⟩ := id hc
    have e60 := oI.2.2.1
    have inC : ∀ X : Int → w_M → Prop, (if w = 0 then X (n 428 60) m else if w = 1 then X (n 428 81) m else if w = 2 then X (n 428 82) m else if w = 3 then X (n 428 61) m else if w = 4 then (if n 428 63 = 0 then X 0 m else X 1 m) else if w = 5 then X (n 463 0) m else if w = 6 then X (a_cb n 200) m else X (-1) m) → xc_x_count (d + 5) w m X := fun X hX => by
      apply xr_x_count
      rw [if_neg (show ¬ m 357 14 = 0 by omega), e60.2, c1, c2, c3, c4]
      by_cases w0 : w = 0
      · rw [if_pos w0] at hX ⊢; exact hX
      · rw [if_neg w0] at hX ⊢
        by_cases w1 : w = 1
        · rw [if_pos w1] at hX ⊢; exact hX
        · rw [if_neg w1] at hX ⊢
          by_cases w2 : w = 2
          · rw [if_pos w2] at hX ⊢; exact hX
          · rw [if_neg w2] at hX ⊢
            by_cases w3 : w = 3
            · rw [if_pos w3] at hX ⊢; exact hX
            · rw [if_neg w3] at hX ⊢
              by_cases w4 : w = 4
              · rw [if_pos w4] at hX ⊢; exact hX
              · rw [if_neg w4] at hX ⊢
                by_cases w5 : w = 5
                · rw [if_pos w5] at hX ⊢
                  apply xr_se_newest
                  rw [if_pos (by omega), c5]
                  exact hX
                · rw [if_neg w5] at hX ⊢
                  by_cases w6 : w = 6
                  · rw [if_pos w6] at hX ⊢
                    apply xr_ta_changes
                    have z0 : n 460 0 = 0 := by
                      by_cases q : n 460 0 = 0
                      · exact q
                      · have := ((c6 0 (by decide) (by decide)).2 q).1
                        omega
                    have e1 : a_cb n 1 = 0 := by
                      show (0 : Int) + (if n 460 ((0 : Nat) : Int) = 0 then 0 else 1) = 0
                      rw [if_pos (by exact z0)]
                      rfl
                    have := c_chg (d := d + 1) (Q := X) oI hc 199 1 (by decide) (by decide) hX
                    rw [e1] at this
                    exact this
                  · rw [if_neg w6] at hX ⊢; exact hX
    have top : a_cb n 200 = a_cb n (n 428 60).toNat := a_cb_top (fun k k0 k1 => by
      by_cases q : n 460 k = 0
      · exact q
      · have := ((c6 k (by omega) k1).2 q).2.1
        omega) 200 (by omega) (by decide) (by omega)
    have inR : ∀ X : Int → w_M → Prop, (if w = 0 then X (n 428 60) n else if w = 1 then X (n 428 81) n else if w = 2 then X (n 428 82) n else if w = 3 then X (n 428 61) n else if w = 4 then (if n 428 63 = 0 then X 0 n else X 1 n) else if w = 5 then X (n 463 0) n else if w = 6 then X (a_cb n 200) n else X (-1) n) → xc_m_count (e + 1) w n X := fun X hX => by
      apply xr_m_count
      rw [if_neg (show ¬ n 428 6 = 0 by omega)]
      refine r_cnt (d := e) (by omega) (n 428 60).toNat 0 (by omega) ?_
      rw [w_32_id c5' (by omega), Nat.zero_add, ← top]
      exact hX
    by_cases w0 : w = 0
    · exact ⟨n 428 60, fun X hX => inC X (by rw [if_pos w0]; exact hX), fun X hX => inR X (by rw [if_pos w0]; exact hX)⟩
    by_cases w1 : w = 1
    · exact ⟨n 428 81, fun X hX => inC X (by rw [if_neg w0, if_pos w1]; exact hX), fun X hX => inR X (by rw [if_neg w0, if_pos w1]; exact hX)⟩
    by_cases w2 : w = 2
    · exact ⟨n 428 82, fun X hX => inC X (by rw [if_neg w0, if_neg w1, if_pos w2]; exact hX), fun X hX => inR X (by rw [if_neg w0, if_neg w1, if_pos w2]; exact hX)⟩
    by_cases w3 : w = 3
    · exact ⟨n 428 61, fun X hX => inC X (by rw [if_neg w0, if_neg w1, if_neg w2, if_pos w3]; exact hX), fun X hX => inR X (by rw [if_neg w0, if_neg w1, if_neg w2, if_pos w3]; exact hX)⟩
    by_cases w4 : w = 4
    · by_cases q : n 428 63 = 0
      · exact ⟨0, fun X hX => inC X (by rw [if_neg w0, if_neg w1, if_neg w2, if_neg w3, if_pos w4, if_pos q]; exact hX), fun X hX => inR X (by rw [if_neg w0, if_neg w1, if_neg w2, if_neg w3, if_pos w4, if_pos q]; exact hX)⟩
      · exact ⟨1, fun X hX => inC X (by rw [if_neg w0, if_neg w1, if_neg w2, if_neg w3, if_pos w4, if_neg q]; exact hX), fun X hX => inR X (by rw [if_neg w0, if_neg w1, if_neg w2, if_neg w3, if_pos w4, if_neg q]; exact hX)⟩
    by_cases w5 : w = 5
    · exact ⟨n 463 0, fun X hX => inC X (by rw [if_neg w0, if_neg w1, if_neg w2, if_neg w3, if_neg w4, if_pos w5]; exact hX), fun X hX => inR X (by rw [if_neg w0, if_neg w1, if_neg w2, if_neg w3, if_neg w4, if_pos w5]; exact hX)⟩
    by_cases w6 : w = 6
    · exact ⟨a_cb n 200, fun X hX => inC X (by rw [if_neg w0, if_neg w1, if_neg w2, if_neg w3, if_neg w4, if_neg w5, if_pos w6]; exact hX), fun X hX => inR X (by rw [if_neg w0, if_neg w1, if_neg w2, if_neg w3, if_neg w4, if_neg w5, if_pos w6]; exact hX)⟩
    · exact ⟨-1, fun X hX => inC X (by rw [if_neg w0, if_neg w1, if_neg w2, if_neg w3, if_neg w4, if_neg w5, if_neg w6]; exact hX), fun X hX => inR X (by rw [if_neg w0, if_neg w1, if_neg w2, if_neg w3, if_neg w4, if_neg w5, if_neg w6]; exact hX)⟩
theorem s_pages (h : d_ac g m n) (ht : n 428 6 = 1 → m 399 7 = n 428 84) : ∃ r, (∀ X : Int → w_M → Prop, X r m → xc_x_pages (d + 1) m X) ∧ (∀ X : Int → w_M → Prop, X r n → xc_m_pages (e + 1) n X) := by
  refine ⟨f_m_pages n, fun X hX => sp_x_pages (d := d) ?_, fun X hX => sp_m_pages (d := e) hX⟩
  have : f_x_pages m = f_m_pages n := by
    unfold f_x_pages f_m_pages
    rcases h with ⟨h1, h2, h3⟩ | ⟨h1, h2, oI, cu⟩
    · rw [if_pos h1, if_pos h2]
    · rw [if_neg (by omega), if_neg (by omega)]; exact ht h2
  rw [this]
  exact hX
/-- glyphs of the page shown: rows alike -/
def d_gl (m n : w_M) : Prop := m 404 18 = n 428 104 ∧ (0 ≤ n 428 104 ∧ n 428 104 ≤ 1500) ∧ (m 357 14 = 0 → n 428 104 = 0) ∧ ∀ i, 0 ≤ i → i < 5 * n 428 104 → m 416 i = n 481 i
theorem s_glyph (hg : d_gl m n) : ∃ r, (∀ X : Int → w_M → Prop, X r m → xc_x_glyph (d + 2) i w m X) ∧ (∀ X : Int → w_M → Prop, X r n → xc_m_glyph (e + 1) i w n X) := by
  obtain ⟨g1, g2, g3, g4⟩ := hg
  have key : k_x_glyph m i w ∧ k_m_glyph n i w ∧ f_x_glyph m i w = f_m_glyph n i w := by
    unfold k_x_glyph k_m_glyph f_x_glyph f_m_glyph
    by_cases q : m 357 14 = 0
    · have := g3 q
      rw [if_pos q, if_pos q]
      by_cases q0 : i < 0
      · rw [if_pos q0, if_pos q0]; exact ⟨trivial, trivial, rfl⟩
      · rw [if_neg q0, if_neg q0, if_neg (by omega), if_neg (by omega)]; exact ⟨trivial, trivial, rfl⟩
    · rw [if_neg q, if_neg q]
      unfold k_pa_glyphAt f_pa_glyphAt
      rw [g1]
      by_cases q0 : i < 0
      · rw [if_pos q0, if_pos q0, if_pos q0, if_pos q0]; exact ⟨trivial, trivial, rfl⟩
      · rw [if_neg q0, if_neg q0, if_neg q0, if_neg q0]
        by_cases q1 : i < n 428 104
        · rw [if_pos q1, if_pos q1, if_pos q1, if_pos q1]
          by_cases q2 : w < 0
          · rw [if_pos q2, if_pos q2, if_pos q2, if_pos q2]; exact ⟨trivial, trivial, rfl⟩
          · rw [if_neg q2, if_neg q2, if_neg q2, if_neg q2]
            by_cases q3 : w < 5
            · have e1 : w_32 (i * 5) = 5 * i := by rw [w_32_id (by omega) (by omega)]; omega
              have e2 : w_32 (5 * i) = 5 * i := w_32_id (by omega) (by omega)
              have e3 : w_32 (5 * i + w) = 5 * i + w := w_32_id (by omega) (by omega)
              rw [e1, e2, e3, if_pos q3, if_pos q3, if_neg (show ¬ 4 < w by omega), if_neg (show ¬ 4 < w by omega), if_pos (show 5 * i + w < 7500 by omega), if_pos (show 5 * i + w < 7500 by omega)]
              exact ⟨by omega, by omega, g4 _ (by omega) (by omega)⟩
            · rw [if_neg q3, if_neg q3, if_pos (show 4 < w by omega), if_pos (show 4 < w by omega)]; exact ⟨trivial, trivial, rfl⟩
        · rw [if_neg q1, if_neg q1, if_neg q1, if_neg q1]; exact ⟨trivial, trivial, rfl⟩
  exact ⟨f_m_glyph n i w, fun X hX => sp_x_glyph (d := d) key.1 (by rw [key.2.2]; exact hX), fun X hX => sp_m_glyph (d := e) key.2.1 hX⟩
end AF
