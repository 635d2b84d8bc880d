/-! ===== names and strings as wholes; faults; nodes that are made ===== -/
theorem c_tx.nil {m : w_M} {P v : Int} (hP : w_isP P) : c_tx m (w_up (w_up m P 17 0) P 4 v) P [] := by
  refine ⟨fun a b q1 q2 => ?_, by rw [w_up_nb (by decide), w_up_eq]; rfl, fun i hi => absurd hi (Nat.not_lt_zero i)⟩
  unfold w_up
  rw [if_neg (by omega), if_neg (by omega)]
theorem c_tx.nil' {m : w_M} {P : Int} (hP : w_isP P) : c_tx m (w_up m P 17 0) P [] := by
  refine ⟨fun a b q1 q2 => ?_, by rw [w_up_eq]; rfl, fun i hi => absurd hi (Nat.not_lt_zero i)⟩
  unfold w_up
  rw [if_neg (by omega)]
theorem m_tx.nil {n : w_M} {v : Int} : m_tx n (w_up (w_up n 428 26 0) 428 21 v) [] := by
  refine ⟨fun a b q1 q2 => ?_, by rw [w_up_nb (by decide), w_up_eq]; rfl, fun i hi => absurd hi (Nat.not_lt_zero i)⟩
  unfold w_up
  rw [if_neg (by omega), if_neg (by omega)]
theorem m_tx.nil4 {n : w_M} {u v : Int} : m_tx n (w_up (w_up (w_up n 428 22 u) 428 26 0) 428 21 v) [] := by
  refine ⟨fun a b q1 q2 => ?_, by rw [w_up_nb (by decide), w_up_eq]; rfl, fun i hi => absurd hi (Nat.not_lt_zero i)⟩
  unfold w_up
  rw [if_neg (by omega), if_neg (by omega), if_neg (by omega)]
/-- the class's fault, told at at -/
def c_fl (m : w_M) (P code at' : Int) : w_M := if m P 6 = 0 then w_up (w_up m P 6 code) P 7 (at' - m P 3) else m
/-- the reference's -/
def m_fl (n : w_M) (code at' : Int) : w_M := if n 428 27 = 0 then w_up (w_up n 428 27 code) 428 28 at' else n
/-- the class's new node -/
def c_new (m : w_M) (k a b s : Int) : w_M := w_up (w_up (w_up (w_up (w_up (w_up (w_up m 359 6 (m 359 6 + 1)) 360 (m 359 6) k) 361 (m 359 6) a) 362 (m 359 6) b) 363 (m 359 6) (-1)) 364 (m 359 6) (-1)) 359 7 (m 359 7 + s)
/-- the reference's -/
def m_new (n : w_M) (k a : Int) : w_M := w_up (w_up (w_up (w_up (w_up (w_up (w_up (w_up (w_up n 428 15 (n 428 15 + 1)) 432 (n 428 15) (w_8 k)) 433 (n 428 15) a) 434 (n 428 15) 0) 435 (n 428 15) 0) 436 (n 428 15) (-1)) 437 (n 428 15) (-1)) 438 (n 428 15) 0) 439 (n 428 15) 0
section TZ
variable {d : Nat} {m n : w_M} {P L p c at' : Int} {W : Int → Int} {Q : Int → w_M → Prop}
theorem sp_failAt (hP : w_isP P) (h3 : 0 ≤ m P 3 ∧ m P 3 ≤ 200000) (ha : 0 ≤ at' ∧ at' ≤ 400000) (h : Q (-1) (c_fl m P c at')) : xc_ps_failAt (d + 1) P c at' m Q := by
  apply xr_ps_failAt hP
  unfold c_fl at h
  by_cases q : m P 6 = 0
  · rw [if_pos q] at h ⊢
    rw [w_32_id (by omega) (by omega)]
    exact h
  · rw [if_neg q] at h ⊢
    exact h
theorem sp_m_fail (h : Q 0 (m_fl n c at')) : xc_m_fail (d + 1) c at' n Q := by
  apply xr_m_fail
  unfold m_fl at h
  by_cases q : n 428 27 = 0
  · rw [if_pos q] at h ⊢
    exact h
  · rw [if_neg q] at h ⊢
    exact h
/-- what the class's store bears while a text is read -/
def c_rm (m : w_M) (P : Int) : Prop := 0 ≤ m P 8 ∧ m P 8 ≤ 10564 ∧ m P 8 ≤ m 359 6 ∧ m 359 6 ≤ m P 8 + 6000 ∧ 0 ≤ m P 9 ∧ m P 9 ≤ 100000 ∧ m P 9 ≤ m 359 7 ∧ m 359 7 ≤ m P 9 + 60000
/-- no node, or no text, can be had -/
def c_full (m : w_M) (P s : Int) : Prop := 6000 ≤ m 359 6 - m P 8 ∨ 60000 < m 359 7 - m P 9 + s
theorem sp_make_15 {k a b s : Int} (hP : w_isP P) (hr : c_rm m P) (hs : 0 ≤ s ∧ s ≤ 200000) (hro : ¬ c_full m P s → m 359 7 + s ≤ 108612) (h3 : 0 ≤ m P 3 ∧ m P 3 ≤ 200000) (ha : 0 ≤ at' ∧ at' ≤ 400000)
    (h1 : c_full m P s → Q (-1) (c_fl m P 5 at')) (h2 : ¬ c_full m P s → Q (m 359 6) (c_new m k a b s)) : xp_ps_make_15 (d + 1) P k a b at' s m Q := by
  obtain ⟨r1, r2, r3, r4, r5, r6, r7, r8⟩ := hr
  apply xr_ps_make_15 hP
  rw [w_32_id (x := m 359 6 - m P 8) (by omega) (by omega), w_32_id (x := m 359 7 - m P 9) (by omega) (by omega), w_32_id (x := m 359 7 - m P 9 + s) (by omega) (by omega), w_32_id (x := m 359 7 + s) (by omega) (by omega)]
  by_cases q1 : m 359 6 - m P 8 < 6000
  · rw [if_pos q1]
    by_cases q2 : 60000 < m 359 7 - m P 9 + s
    · rw [if_pos q2]
      exact sp_failAt hP h3 ha (h1 (Or.inr q2))
    · have hro2 := hro (fun z => by rcases z with z | z; omega; exact q2 z)
      rw [if_neg q2, if_neg (by omega)]
      apply xr_st_add
      rw [if_neg (by omega), if_pos (by omega)]
      have b1 : (0 : Int) ≤ m 359 6 ∧ m 359 6 < 16564 := by omega
      refine ⟨b1, b1, b1, b1, b1, ?_⟩
      rw [if_neg (by omega), w_32_id (x := m 359 6 + 1) (by omega) (by omega)]
      have e7 : w_up (w_up (w_up (w_up (w_up (w_up m 359 6 (m 359 6 + 1)) 360 (m 359 6) k) 361 (m 359 6) a) 362 (m 359 6) b) 363 (m 359 6) (-1)) 364 (m 359 6) (-1) 359 7 = m 359 7 := by
        rw [w_up_ne (by decide), w_up_ne (by decide), w_up_ne (by decide), w_up_ne (by decide), w_up_ne (by decide), w_up_nb (by decide)]
      rw [e7, w_32_id (x := m 359 7 + s) (by omega) (by omega)]
      refine h2 (fun z => ?_)
      rcases z with z | z
      · omega
      · exact q2 z
  · rw [if_neg q1]
    exact sp_failAt hP h3 ha (h1 (Or.inl (by omega)))
/-- a node with no text -/
theorem sp_make {k a b : Int} (hk : k ≠ 4 ∧ k ≠ 5) (hP : w_isP P) (hr : c_rm m P) (hro : m 359 7 ≤ 108612) (h3 : 0 ≤ m P 3 ∧ m P 3 ≤ 200000) (ha : 0 ≤ at' ∧ at' ≤ 400000)
    (h1 : c_full m P 0 → Q (-1) (c_fl m P 5 at')) (h2 : ¬ c_full m P 0 → Q (m 359 6) (c_new m k a b 0)) : xc_ps_make (d + 2) P k a b at' m Q := by
  apply xr_ps_make hP
  rw [if_neg hk.1, if_neg hk.2]
  exact sp_make_15 hP hr (by decide) (fun _ => by omega) h3 ha h1 h2
/-- a name's or string's node -/
theorem sp_make_t {k a s : Int} (hk : k = 4 ∨ k = 5) (hP : w_isP P) (hr : c_rm m P) (hs : 0 ≤ s ∧ s ≤ 200000) (hro : ¬ c_full m P s → m 359 7 + s ≤ 108612) (h3 : 0 ≤ m P 3 ∧ m P 3 ≤ 200000) (ha : 0 ≤ at' ∧ at' ≤ 400000)
    (h1 : c_full m P s → Q (-1) (c_fl m P 5 at')) (h2 : ¬ c_full m P s → Q (m 359 6) (c_new m k a s s)) : xc_ps_make (d + 2) P k a s at' m Q := by
  apply xr_ps_make hP
  by_cases q : k = 4
  · rw [if_pos q]
    exact sp_make_15 hP hr hs hro h3 ha h1 h2
  · rw [if_neg q, if_pos (by omega)]
    exact sp_make_15 hP hr hs hro h3 ha h1 h2
theorem sp_newNode {k a : Int} (hr : 0 ≤ n 428 15 ∧ n 428 15 < 40000) (h : Q (n 428 15) (m_new n k a)) : xc_m_newNode (d + 1) k a n Q := by
  apply xr_m_newNode
  rw [w_8_8, w_32_id (by omega) (by omega)]
  exact ⟨hr, hr, hr, hr, hr, hr, hr, hr, h⟩
/-- the reference's name -/
theorem sp_readName (hw : m_st n W L p) (h2 : n 428 18 ≠ 440) (h7 : 0 ≤ n 428 17 ∧ n 428 17 + L ≤ 140000 + p) (hin : p < L)
    (h0 : ∀ e l', u_n W (L - (p + 1)).toNat (p + 1) [] = (0, e, l') → p + 1 ≤ e → e ≤ L → l'.length + (p + 1) ≤ e → ∀ n', m_tx n n' l' → n' 428 21 = e → Q 0 (w_up n' 428 22 (if 60 < (l'.length : Int) then 11 else 4)))
    (h1 : ∀ e l', u_n W (L - (p + 1)).toNat (p + 1) [] = (1, e, l') → ∀ n', m_tx n n' l' → n' 428 21 = e → Q 0 (w_up n' 428 22 10)) : xc_m_readName (d + 3) n Q := by
  obtain ⟨hv, hL, hp, p0, p1⟩ := hw
  apply xr_m_readName
  rw [hp, w_32_id (by omega) (by omega)]
  exact sp_readName_20 (d := d) hv h2 hL (s := p + 1) ⟨h7.1, by omega⟩ _ (p + 1) [] _ (by omega) (by omega) (by omega) (by show ((0 : Nat) : Int) + (p + 1) ≤ p + 1; omega) m_tx.nil4 w_up_eq h0 h1
theorem sp_readString (hw : m_st n W L p) (h2 : n 428 18 ≠ 440) (h7 : 0 ≤ n 428 17 ∧ n 428 17 + L ≤ 140000 + p) (hin : p < L)
    (h0 : ∀ e l', u_r W (L - (p + 1)).toNat (p + 1) 1 [] = (0, e, l') → 0 ≤ e → e ≤ L → l'.length + (p + 1) ≤ e → ∀ n', m_tx n n' l' → n' 428 21 = e → Q 0 (w_up n' 428 22 (if 2000 < n' 428 26 then 11 else 5)))
    (h1 : ∀ e l', u_r W (L - (p + 1)).toNat (p + 1) 1 [] = (1, e, l') → ∀ n', m_tx n n' l' → Q 0 (w_up n' 428 22 10)) : xc_m_readString (d + 3) n Q := by
  obtain ⟨hv, hL, hp, p0, p1⟩ := hw
  apply xr_m_readString
  rw [hp, w_32_id (by omega) (by omega)]
  exact sp_readString_17 (d := d) hv h2 hL (s := p + 1) ⟨h7.1, by omega⟩ _ (p + 1) 1 [] _ (by omega) (by omega) (by omega) (by decide) (by omega) (by show ((0 : Nat) : Int) + (p + 1) ≤ p + 1; omega) m_tx.nil w_up_eq h0 h1
theorem sp_readHex (hw : m_st n W L p) (h2 : n 428 18 ≠ 440) (h7 : 0 ≤ n 428 17 ∧ n 428 17 + L ≤ 140000 + p) (hin : p < L)
    (h0 : ∀ e l', u_x W (L - (p + 1)).toNat (p + 1) (-1) [] = (0, e, l') → 0 ≤ e → e ≤ L → l'.length + (p + 1) ≤ e → ∀ n', m_tx n n' l' → n' 428 21 = e → Q 0 (w_up n' 428 22 (if 2000 < n' 428 26 then 11 else 5)))
    (h1 : ∀ e l', u_x W (L - (p + 1)).toNat (p + 1) (-1) [] = (1, e, l') → ∀ n', m_tx n n' l' → Q 0 (w_up n' 428 22 10)) : xc_m_readHex (d + 3) n Q := by
  obtain ⟨hv, hL, hp, p0, p1⟩ := hw
  apply xr_m_readHex
  rw [hp, w_32_id (by omega) (by omega)]
  exact sp_readHex_17 (d := d) hv h2 hL (s := p + 1) ⟨h7.1, by omega⟩ _ (p + 1) (-1) [] _ (by omega) (by omega) (by omega) (by decide) (by decide) (by show ((0 : Nat) : Int) + (p + 1) ≤ p + 1; omega) m_tx.nil w_up_eq h0 h1
end TZ
