/-! ===== the tape, the out ===== -/
theorem w_8_8 (x : Int) : w_8 (w_8 x) = w_8 x := w_8_id (w_8_r x).1 (w_8_r x).2
def t_by (v s : Int) : Int := w_8 (w_shr v s)
/-- four bytes come behind n: cell cb; how many: cell co, place 1 -/
def t_l1 (m : w_M) (cb co n v s : Int) : w_M := w_up (w_up m cb n (t_by v s)) co 1 (n + 1)
def t_l4 (m : w_M) (cb co n v : Int) : w_M := t_l1 (t_l1 (t_l1 (t_l1 m cb co n v 24) cb co (n + 1) v 16) cb co (n + 2) v 8) cb co (n + 3) v 0
section TA
variable {d : Nat} {m : w_M} {Q : Int → w_M → Prop} {n v s : Int}
theorem sp_lay_s (hn : m 357 1 = n) (h0 : 0 ≤ n) (h1 : n < 8000) (hs : 0 ≤ s) (h : xp_x_layNumber_3 d v (w_32 (s + (-8))) (t_l1 m 358 357 n v s) Q) : xp_x_layNumber_3 d v s m Q := by
  apply xr_x_layNumber_3
  rw [if_neg (by omega), hn, if_neg (by omega), if_pos (by omega), w_8_8, w_32_id (x := n + 1) (by omega) (by omega)]
  exact ⟨⟨h0, h1⟩, h⟩
theorem t_l1_n {m : w_M} {cb co n v s : Int} : t_l1 m cb co n v s co 1 = n + 1 := w_up_eq
theorem sp_layNumber (hn : m 357 1 = n) (h0 : 0 ≤ n) (h1 : n + 4 ≤ 8000) (h : Q 0 (t_l4 m 358 357 n v)) : xc_x_layNumber (d + 1) v m Q := by
  apply xr_x_layNumber
  refine sp_lay_s hn h0 (by omega) (by decide) ?_
  refine sp_lay_s (n := n + 1) t_l1_n (by omega) (by omega) (by decide) ?_
  refine sp_lay_s (n := n + 2) (t_l1_n.trans (by omega)) (by omega) (by omega) (by decide) ?_
  refine sp_lay_s (n := n + 3) (t_l1_n.trans (by omega)) (by omega) (by omega) (by decide) ?_
  apply xr_x_layNumber_3
  rw [if_pos (by decide)]
  exact h
theorem sp_mlay_s (hn : m 428 1 = n) (h0 : 0 ≤ n) (h1 : n < 8000) (hs : 0 ≤ s) (h : xp_m_lay_3 d v (w_32 (s + (-8))) (t_l1 m 429 428 n v s) Q) : xp_m_lay_3 d v s m Q := by
  apply xr_m_lay_3
  simp only [hn]
  rw [if_neg (by omega), w_8_8, w_32_id (x := n + 1) (by omega) (by omega)]
  exact ⟨⟨h0, h1⟩, h⟩
theorem sp_mlay (hn : m 428 1 = n) (h0 : 0 ≤ n) (h1 : n + 4 ≤ 8000) (h : Q 0 (t_l4 m 429 428 n v)) : xc_m_lay (d + 1) v m Q := by
  apply xr_m_lay
  refine sp_mlay_s hn h0 (by omega) (by decide) ?_
  refine sp_mlay_s (n := n + 1) t_l1_n (by omega) (by omega) (by decide) ?_
  refine sp_mlay_s (n := n + 2) (t_l1_n.trans (by omega)) (by omega) (by omega) (by decide) ?_
  refine sp_mlay_s (n := n + 3) (t_l1_n.trans (by omega)) (by omega) (by omega) (by decide) ?_
  apply xr_m_lay_3
  rw [if_pos (by decide)]
  exact h
end TA
def t_f (m : w_M) (cb co n a b c e f : Int) : w_M := t_l4 (t_l4 (t_l4 (t_l4 (t_l4 m cb co n a) cb co (n + 4) b) cb co (n + 8) c) cb co (n + 12) e) cb co (n + 16) f
theorem t_l4_n {m : w_M} {cb co n v : Int} : t_l4 m cb co n v co 1 = n + 4 := t_l1_n.trans (by omega)
section TF
variable {d : Nat} {m m' : w_M} {Q : Int → w_M → Prop} {a b c e f : Int}
theorem sp_x_feed (h0 : 0 ≤ m 357 1) (h1 : m 357 1 ≤ 8000) (h2 : 8000 < m 357 1 + 20 → Q (-1) m) (h3 : m 357 1 + 20 ≤ 8000 → Q (m 357 1 + 20) (t_f m 358 357 (m 357 1) a b c e f)) : xc_x_feed (d + 2) a b c e f m Q := by
  apply xr_x_feed
  rw [w_32_id (by omega) (by omega)]
  split
  · exact h2 (by omega)
  · refine sp_layNumber rfl h0 (by omega) ?_
    refine sp_layNumber (n := m 357 1 + 4) t_l4_n (by omega) (by omega) ?_
    refine sp_layNumber (n := m 357 1 + 8) (t_l4_n.trans (by omega)) (by omega) (by omega) ?_
    refine sp_layNumber (n := m 357 1 + 12) (t_l4_n.trans (by omega)) (by omega) (by omega) ?_
    refine sp_layNumber (n := m 357 1 + 16) (t_l4_n.trans (by omega)) (by omega) (by omega) ?_
    rw [t_l4_n, show m 357 1 + 16 + 4 = m 357 1 + 20 by omega]
    exact h3 (by omega)
theorem sp_m_feed (h0 : 0 ≤ m 428 1) (h1 : m 428 1 ≤ 8000) (h2 : 8000 < m 428 1 + 20 → Q (-1) m) (h3 : m 428 1 + 20 ≤ 8000 → Q (m 428 1 + 20) (t_f m 429 428 (m 428 1) a b c e f)) : xc_m_feed (d + 2) a b c e f m Q := by
  apply xr_m_feed
  rw [w_32_id (by omega) (by omega)]
  split
  · exact h2 (by omega)
  · refine sp_mlay rfl h0 (by omega) ?_
    refine sp_mlay (n := m 428 1 + 4) t_l4_n (by omega) (by omega) ?_
    refine sp_mlay (n := m 428 1 + 8) (t_l4_n.trans (by omega)) (by omega) (by omega) ?_
    refine sp_mlay (n := m 428 1 + 12) (t_l4_n.trans (by omega)) (by omega) (by omega) ?_
    refine sp_mlay (n := m 428 1 + 16) (t_l4_n.trans (by omega)) (by omega) (by omega) ?_
    rw [t_l4_n, show m 428 1 + 16 + 4 = m 428 1 + 20 by omega]
    exact h3 (by omega)
/-- two rows of bytes are alike up to n -/
def t_eq (m m' : w_M) (cb cb' n : Int) : Prop := ∀ i : Int, 0 ≤ i → i < n → m cb i = m' cb' i
theorem t_eq.l1 {cb cb' co co' n v s : Int} (h : t_eq m m' cb cb' n) (h1 : cb ≠ co) (h2 : cb' ≠ co') : t_eq (t_l1 m cb co n v s) (t_l1 m' cb' co' n v s) cb cb' (n + 1) := by
  intro i q1 q2
  unfold t_l1
  rw [w_up_ne h1, w_up_ne h2]
  by_cases hi : i = n
  · subst hi
    rw [w_up_eq, w_up_eq]
  · rw [w_up_nb hi, w_up_nb hi]
    exact h i q1 (by omega)
theorem t_eq.to {cb cb' n k : Int} (h : t_eq m m' cb cb' n) (e : n = k) : t_eq m m' cb cb' k := e ▸ h
theorem t_eq.l4 {cb cb' co co' n v : Int} (h : t_eq m m' cb cb' n) (h1 : cb ≠ co) (h2 : cb' ≠ co') : t_eq (t_l4 m cb co n v) (t_l4 m' cb' co' n v) cb cb' (n + 4) := by
  have q1 := h.l1 (v := v) (s := 24) h1 h2
  have q2 := q1.l1 (v := v) (s := 16) h1 h2
  have q3 := (q2.to (show n + 1 + 1 = n + 2 by omega)).l1 (v := v) (s := 8) h1 h2
  have q4 := (q3.to (show n + 2 + 1 = n + 3 by omega)).l1 (v := v) (s := 0) h1 h2
  exact q4.to (by omega)
theorem t_eq.fd {cb cb' co co' n : Int} (h : t_eq m m' cb cb' n) (h1 : cb ≠ co) (h2 : cb' ≠ co') : t_eq (t_f m cb co n a b c e f) (t_f m' cb' co' n a b c e f) cb cb' (n + 20) := by
  have q1 := h.l4 (v := a) h1 h2
  have q2 := q1.l4 (v := b) h1 h2
  have q3 := (q2.to (show n + 4 + 4 = n + 8 by omega)).l4 (v := c) h1 h2
  have q4 := (q3.to (show n + 8 + 4 = n + 12 by omega)).l4 (v := e) h1 h2
  have q5 := (q4.to (show n + 12 + 4 = n + 16 by omega)).l4 (v := f) h1 h2
  exact q5.to (by omega)
theorem t_l1_o {cb co n v s i j : Int} (h : i ≠ cb) (h2 : i ≠ co ∨ j ≠ 1) : t_l1 m cb co n v s i j = m i j := by
  unfold t_l1
  rcases h2 with h2 | h2
  · rw [w_up_ne h2, w_up_ne h]
  · rw [w_up_nb h2, w_up_ne h]
theorem t_f_o {cb co n i j : Int} (h : i ≠ cb) (h2 : i ≠ co ∨ j ≠ 1) : t_f m cb co n a b c e f i j = m i j := by
  unfold t_f t_l4
  simp only [t_l1_o h h2]
theorem t_f_n {cb co n : Int} : t_f m cb co n a b c e f co 1 = n + 20 := by
  unfold t_f
  rw [t_l4_n]
  omega
-- tape and out, alike on both sides
def q_tape (m : w_M) : Prop := m 428 1 = m 357 1 ∧ 0 ≤ m 357 1 ∧ m 357 1 ≤ 8000 ∧ t_eq m m 358 429 (m 357 1)
def q_out (m : w_M) : Prop := m 428 5 = m 418 3 ∧ 0 ≤ m 418 3 ∧ m 418 3 ≤ 30000 ∧ t_eq m m 419 431 (m 418 3)
/-- the tape's cells -/
def q_tc (a b : Int) : Prop := a = 358 ∨ a = 429 ∨ (a = 357 ∧ b = 1) ∨ (a = 428 ∧ b = 1)
/-- tapes stay alike, nothing else changes -/
def q_tp (m m' : w_M) : Prop := q_tape m' ∧ ∀ a b, ¬ q_tc a b → m' a b = m a b
theorem q_tp.rf (h : q_tape m) : q_tp m m := ⟨h, fun _ _ _ => rfl⟩
theorem law_feed (h : q_tape m) : xc_x_feed (d + 2) a b c e f m (fun r m1 => xc_m_feed (d + 2) a b c e f m1 (fun r' m2 => r' = r ∧ q_tp m m2)) := by
  obtain ⟨e1, e2, e3, e4⟩ := h
  refine sp_x_feed e2 e3 (fun q => ?_) (fun q => ?_)
  · exact sp_m_feed (by omega) (by omega) (fun _ => ⟨rfl, q_tp.rf ⟨e1, e2, e3, e4⟩⟩) (fun q => by omega)
  · have n1 : t_f m 358 357 (m 357 1) a b c e f 428 1 = m 357 1 := (t_f_o (by decide) (Or.inl (by decide))).trans e1
    refine sp_m_feed (by omega) (by omega) (fun q => by omega) (fun _ => ?_)
    rw [n1]
    refine ⟨rfl, ⟨?_, ?_, ?_, ?_⟩, ?_⟩
    · rw [t_f_n, t_f_o (by decide) (Or.inl (by decide)), t_f_n]
    · rw [t_f_o (by decide) (Or.inl (by decide)), t_f_n]; omega
    · rw [t_f_o (by decide) (Or.inl (by decide)), t_f_n]; omega
    · rw [t_f_o (by decide) (Or.inl (by decide)), t_f_n]
      intro i q1 q2
      rw [t_f_o (by decide) (Or.inl (by decide))]
      have := t_eq.fd (a := a) (b := b) (c := c) (e := e) (f := f) (m := m) (m' := t_f m 358 357 (m 357 1) a b c e f) (cb := 358) (cb' := 429) (co := 357) (co' := 428) (n := m 357 1) (fun i q1 q2 => by rw [t_f_o (by decide) (Or.inl (by decide))]; exact e4 i q1 q2) (by decide) (by decide)
      exact this i q1 q2
    · intro i j hq
      unfold q_tc at hq
      rw [t_f_o (by omega) (by omega), t_f_o (by omega) (by omega)]
theorem law_cut (h : q_tape m) (ha : w_r 0 a) : xc_x_cut (d + 1) a m (fun r m1 => xc_m_cut (d + 1) a m1 (fun r' m2 => r' = r ∧ q_tp m m2)) := by
  obtain ⟨e1, e2, e3, e4⟩ := h
  apply xr_x_cut
  have ea := ha
  split
  · apply xr_m_cut
    rw [if_pos (by assumption)]
    exact ⟨rfl, q_tp.rf ⟨e1, e2, e3, e4⟩⟩
  · split
    · apply xr_m_cut
      rw [if_neg (by assumption), e1, if_pos (by assumption)]
      exact ⟨rfl, q_tp.rf ⟨e1, e2, e3, e4⟩⟩
    · apply xr_m_cut
      have n1 : w_up m 357 1 a 428 1 = m 357 1 := (w_up_ne (by decide)).trans e1
      rw [if_neg (by assumption), n1, if_neg (by assumption)]
      refine ⟨rfl, ⟨?_, ?_, ?_, ?_⟩, ?_⟩
      · rw [w_up_eq, w_up_ne (by decide), w_up_eq]
      · rw [w_up_ne (by decide), w_up_eq]; omega
      · rw [w_up_ne (by decide), w_up_eq]; omega
      · rw [w_up_ne (by decide), w_up_eq]
        intro i q1 q2
        rw [w_up_ne (by decide), w_up_ne (by decide), w_up_ne (by decide), w_up_ne (by decide)]
        exact e4 i q1 (by omega)
      · intro i j hq
        unfold q_tc at hq
        unfold w_up
        rw [if_neg (by omega), if_neg (by omega)]
end TF
