/-! ===== numbers, references, truths, null: the class ===== -/
/-- a whole's number and R behind q -/
def u_rf (W : Int → Int) (L q : Int) : Prop := t_un W L (k_w W (L - q).toNat false q) ∧ t_is W L (k_w W (L - (k_w W (L - q).toNat false q + g_len W (L - k_w W (L - q).toNat false q).toNat (k_w W (L - q).toNat false q))).toNat false (k_w W (L - q).toNat false q + g_len W (L - k_w W (L - q).toNat false q).toNat (k_w W (L - q).toNat false q))) [82]
/-- its generation, its end -/
def u_rg (W : Int → Int) (L q : Int) : Int := g_va (g_s W (k_w W (L - q).toNat false q) (g_len W (L - k_w W (L - q).toNat false q).toNat (k_w W (L - q).toNat false q))) (W (k_w W (L - q).toNat false q))
def u_re (W : Int → Int) (L q : Int) : Int := k_w W (L - (k_w W (L - q).toNat false q + g_len W (L - k_w W (L - q).toNat false q).toNat (k_w W (L - q).toNat false q))).toNat false (k_w W (L - q).toNat false q + g_len W (L - k_w W (L - q).toNat false q).toNat (k_w W (L - q).toNat false q)) + 1
/-- what stands at p: its fault or 0, where it ends, kind, one, two -/
noncomputable def u_pl (W : Int → Int) (L p refs : Int) : Int × Int × Int × Int × Int := by
  classical
  exact (if g_kd (g_s W p (g_len W (L - p).toNat p)) = -1 then
      (if t_is W L p [116, 114, 117, 101] then (0, p + 4, 1, 1, 0) else if t_is W L p [102, 97, 108, 115, 101] then (0, p + 5, 1, 0, 0) else if t_is W L p [110, 117, 108, 108] then (0, p + 4, 0, 0, 0) else (4, 0, 0, 0, 0))
    else if g_by (g_s W p (g_len W (L - p).toNat p)) (W p) then (5, 0, 0, 0, 0)
    else if g_kd (g_s W p (g_len W (L - p).toNat p)) = 2 ∧ ¬ (W p = 43 ∨ W p = 45) ∧ refs ≠ 0 ∧ u_rf W L (p + g_len W (L - p).toNat p) then
      (if 1 ≤ g_va (g_s W p (g_len W (L - p).toNat p)) (W p) ∧ g_va (g_s W p (g_len W (L - p).toNat p)) (W p) < 200 ∧ u_rg W L (p + g_len W (L - p).toNat p) ≤ 65535 then (0, u_re W L (p + g_len W (L - p).toNat p), 8, g_va (g_s W p (g_len W (L - p).toNat p)) (W p), u_rg W L (p + g_len W (L - p).toNat p)) else (5, 0, 0, 0, 0))
    else (0, p + g_len W (L - p).toNat p, g_kd (g_s W p (g_len W (L - p).toNat p)), g_va (g_s W p (g_len W (L - p).toNat p)) (W p), 0))
theorem g_kd_r (s : g_t) : g_kd s = -1 ∨ g_kd s = 2 ∨ g_kd s = 3 := by
  unfold g_kd
  split
  · exact Or.inl rfl
  · split
    · exact Or.inr (Or.inl rfl)
    · exact Or.inr (Or.inr rfl)
theorem g_va_0 {W : Int → Int} {p c : Int} {k : Nat} (h : g_kd (g_s W p k) = 2) (hc : c ≠ 45) : 0 ≤ g_va (g_s W p k) c := by
  obtain ⟨a1, a2, a3, a4, a5, a6, a7, a8, a9, a10, a11, a12, a13⟩ := g_ok W p k
  unfold g_va
  rw [if_neg hc]
  unfold g_ab
  unfold g_kd at h
  by_cases z : (g_s W p k).1 = 1
  · rw [z] at h
    split at h
    · exact absurd h (by decide)
    · rw [if_neg (by decide)] at h
      exact absurd h (by decide)
  · rw [if_neg z]
    exact a8
section TP
variable {d : Nat} {m m' : w_M} {P L p : Int} {W : Int → Int} {Q : Int → w_M → Prop}
theorem c_ch.sm (h : c_ch m m' P) (hP : w_isP P) : m' P 3 = m P 3 ∧ m' P 6 = m P 6 ∧ m' P 8 = m P 8 ∧ m' P 9 = m P 9 ∧ m' 359 6 = m 359 6 ∧ m' 359 7 = m 359 7 ∧ m' P 10 = m P 10 := by
  have hP2 : P ≠ 359 := by rcases hP with rfl | rfl <;> decide
  exact ⟨h _ _ (by omega), h _ _ (by omega), h _ _ (by omega), h _ _ (by omega), h _ _ (by omega), h _ _ (by omega), h _ _ (by omega)⟩
theorem c_rm.ch (h : c_rm m P) (ht : c_ch m m' P) (hP : w_isP P) : c_rm m' P := by
  obtain ⟨e3, e6, e8, e9, f6, f7, e10⟩ := ht.sm hP
  unfold c_rm at h ⊢
  rw [e8, e9, f6, f7]
  exact h
theorem c_full.ch (ht : c_ch m m' P) (hP : w_isP P) {s : Int} : c_full m' P s ↔ c_full m P s := by
  obtain ⟨e3, e6, e8, e9, f6, f7, e10⟩ := ht.sm hP
  unfold c_full
  rw [e8, e9, f6, f7]
theorem t_true : t_s 16 [116, 114, 117, 101] := ⟨by decide, by decide, by decide, _, rfl⟩
theorem t_false : t_s 18 [102, 97, 108, 115, 101] := ⟨by decide, by decide, by decide, _, rfl⟩
theorem t_null : t_s 20 [110, 117, 108, 108] := ⟨by decide, by decide, by decide, _, rfl⟩
theorem t_R : t_s 22 [82] := ⟨by decide, by decide, by decide, _, rfl⟩
theorem sp_plain (h : c_st m P W L p) (hr : c_rm m P) (hro : m 359 7 ≤ 108612)
    (hb : ∀ c e k a b, u_pl W L p (m P 10) = (c, e, k, a, b) → c ≠ 0 → ∀ m', c_ch m m' P → Q (-1) (c_fl m' P c (m P 3 + p)))
    (hf : ∀ e k a b, u_pl W L p (m P 10) = (0, e, k, a, b) → c_full m P 0 → ∀ m', c_ch m m' P → Q (-1) (c_fl m' P 5 (m P 3 + p)))
    (hg : ∀ e k a b, u_pl W L p (m P 10) = (0, e, k, a, b) → ¬ c_full m P 0 → ∀ m', c_ch m m' P → c_st m' P W L e → Q (m 359 6) (c_new m' k a b 0)) : xc_ps_plain (d + 8) P (m P 3 + p) m Q := by
  have hP := h.1.2.1
  have hb3 : 0 ≤ m P 3 ∧ m P 3 ≤ 200000 ∧ 0 ≤ p ∧ p ≤ 200000 := by
    obtain ⟨k1, k2, k3, k4, k5⟩ := h
    obtain ⟨⟨v1, v2, v3⟩, h2, h3, h4, h4b, h5, h6, h7, h8, h9⟩ := k1
    omega
  have fl : ∀ {d2 : Nat} c e k a b, u_pl W L p (m P 10) = (c, e, k, a, b) → c ≠ 0 → ∀ m', c_ch m m' P → xc_ps_failAt (d2 + 1) P c (m P 3 + p) m' (fun r m1 => Q r m1) := by
    intro d2 c e k a b y1 y2 m' t
    exact sp_failAt hP (by rw [(t.sm hP).1]; omega) (by omega) (hb c e k a b y1 y2 m' t)
  have mk : ∀ {d2 : Nat} e k a b, u_pl W L p (m P 10) = (0, e, k, a, b) → k ≠ 4 ∧ k ≠ 5 → ∀ m', c_ch m m' P → c_st m' P W L e → xc_ps_make (d2 + 2) P k a b (m P 3 + p) m' (fun r m1 => Q r m1) := by
    intro d2 e k a b y1 y2 m' t s
    refine sp_make y2 hP (hr.ch t hP) (by rw [(t.sm hP).2.2.2.2.2.1]; exact hro) (by rw [(t.sm hP).1]; omega) (by omega) (fun z => ?_) (fun z => ?_)
    · exact hf e k a b y1 ((c_full.ch t hP).1 z) m' t
    · rw [(t.sm hP).2.2.2.2.1]
      exact hg e k a b y1 (fun y => z ((c_full.ch t hP).2 y)) m' t s
  apply xr_ps_plain hP
  refine sp_look h (fun m1 x1 x2 x3 x4 => ?_)
  obtain ⟨r1, r2, r3, r4⟩ := x3
  have hle := g_len_le W (L - p).toNat p
  have e10 := (x1.sm hP).2.2.2.2.2.2
  have p1 := h.2.2.2.1
  have p0 := h.2.2.1
  clear h hr hb hf hg
  unfold u_pl at fl mk
  by_cases q1 : g_kd (g_s W p (g_len W (L - p).toNat p)) = -1
  · rw [r2, if_pos q1]
    rw [if_pos q1] at fl mk
    apply xr_ps_literal hP
    have lit : ∀ (l : List Int) (k a : Int), t_is W L p l → k ≠ 4 ∧ k ≠ 5 → (∀ m', c_ch m m' P → c_st m' P W L (p + l.length) → xc_ps_make (d + 4 + 2) P k a 0 (m P 3 + p) m' (fun r m1 => Q r m1)) → xc_ps_make (d + 4 + 2) P k a 0 (m P 3 + p) (w_up m1 P 4 (m1 P 12)) (fun r m1 => Q r m1) := by
      intro l k a y1 y2 y3
      rw [r1, show m1 P 3 + p + (g_len W (L - p).toNat p : Int) = m1 P 3 + (p + g_len W (L - p).toNat p) by omega]
      refine y3 _ x1.up ?_
      rw [y1.1]
      have y4 := y1.1
      exact x2.mv (by omega) (by omega)
    refine sp_rowIs t_true x2 ⟨r1, r2, r3, r4⟩ (fun y1 => ?_) (fun y1 => ?_)
    · rw [if_pos y1] at mk
      rw [if_neg (by decide), if_neg (by decide)]
      exact lit _ 1 1 y1 (by decide) (mk _ _ _ _ rfl (by decide))
    · rw [if_neg y1] at fl mk
      rw [if_pos rfl]
      refine sp_rowIs t_false x2 ⟨r1, r2, r3, r4⟩ (fun y2 => ?_) (fun y2 => ?_)
      · rw [if_pos y2] at mk
        rw [if_neg (by decide), if_pos rfl]
        exact lit _ 1 0 y2 (by decide) (mk _ _ _ _ rfl (by decide))
      · rw [if_neg y2] at fl mk
        rw [if_pos rfl]
        refine sp_rowIs t_null x2 ⟨r1, r2, r3, r4⟩ (fun y3 => ?_) (fun y3 => ?_)
        · rw [if_pos y3] at mk
          rw [if_neg (by decide)]
          exact lit _ 0 0 y3 (by decide) (mk _ _ _ _ rfl (by decide))
        · rw [if_neg y3] at fl
          rw [if_pos rfl]
          exact fl _ _ _ _ _ rfl (by decide) m1 x1
  · rw [r2, if_neg q1]
    rw [if_neg q1] at fl mk
    rcases r3 with ⟨r5, r6⟩ | ⟨r5, r6, r7⟩
    · rw [if_neg (by omega)]
      rw [if_pos r6] at fl
      exact fl _ _ _ _ _ rfl (by decide) m1 x1
    · rw [if_pos r5]
      rw [if_neg r6] at fl mk
      have hk := g_kd_r (g_s W p (g_len W (L - p).toNat p))
      have n45 : g_kd (g_s W p (g_len W (L - p).toNat p)) ≠ 4 ∧ g_kd (g_s W p (g_len W (L - p).toNat p)) ≠ 5 := by omega
      have m12 : m1 P 12 = m1 P 3 + (p + g_len W (L - p).toNat p) := by omega
      have s2 : c_st (w_up m1 P 4 (m1 P 12)) P W L (p + g_len W (L - p).toNat p) := by
        rw [m12]
        exact x2.mv (by omega) (by omega)
      -- as a number, wherever the parser has gone
      have num : ¬ (g_kd (g_s W p (g_len W (L - p).toNat p)) = 2 ∧ ¬ (W p = 43 ∨ W p = 45) ∧ m P 10 ≠ 0 ∧ u_rf W L (p + g_len W (L - p).toNat p)) → ∀ {d2 : Nat} m' x, c_ch m m' P → c_st m' P W L x → xc_ps_make (d2 + 2) P (g_kd (g_s W p (g_len W (L - p).toNat p))) (m1 P 14) 0 (m P 3 + p) (w_up m' P 4 (m1 P 12)) (fun r m1 => Q r m1) := by
        intro z d2 m' x t s
        rw [if_neg z] at mk
        rw [r7, m12, show m1 P 3 = m' P 3 by rw [x4, (t.sm hP).1]]
        exact mk _ _ _ _ rfl n45 _ t.up (s.mv (by omega) (by omega))
      by_cases q2 : g_kd (g_s W p (g_len W (L - p).toNat p)) = 2
      · rw [if_pos q2]
        by_cases q3 : W p = 43 ∨ W p = 45
        · rw [if_pos q3] at r4
          rw [if_neg (by omega)]
          exact num (fun z => z.2.1 q3) m1 p x1 x2
        · rw [if_neg q3] at r4
          rw [if_pos r4]
          by_cases q4 : m1 P 10 = 0
          · rw [if_pos q4]
            exact num (fun z => z.2.2.1 (by omega)) m1 p x1 x2
          · rw [if_neg q4]
            refine sp_unsigned s2 rfl (fun z1 m4 t1 s4 => ?_) (fun z1 m4 t1 s4 => ?_)
            · have v0 := g_va_0 z1.1 (fun y => z1.2.1 (Or.inr y))
              rw [if_neg (by omega)]
              have t4 := x1.up.tr t1
              refine sp_word t_R s4 rfl (fun z2 m6 t2 s6 => ?_) (fun z2 m6 t2 s6 => ?_)
              · have t6 := t4.tr t2
                rw [if_neg (by decide), r7]
                have urf : u_rf W L (p + g_len W (L - p).toNat p) := ⟨z1, z2⟩
                rw [if_pos ⟨q2, q3, by omega, urf⟩] at fl mk
                have bad : ¬ (1 ≤ g_va (g_s W p (g_len W (L - p).toNat p)) (W p) ∧ g_va (g_s W p (g_len W (L - p).toNat p)) (W p) < 200 ∧ u_rg W L (p + g_len W (L - p).toNat p) ≤ 65535) → xc_ps_failAt (d + 6 + 1) P 5 (m P 3 + p) m6 (fun r m1 => Q r m1) := by
                  intro y
                  rw [if_neg y] at fl
                  exact fl _ _ _ _ _ rfl (by decide) m6 t6
                by_cases q5 : g_va (g_s W p (g_len W (L - p).toNat p)) (W p) < 1
                · rw [if_pos q5]
                  exact bad (fun y => by omega)
                · rw [if_neg q5]
                  by_cases q6 : g_va (g_s W p (g_len W (L - p).toNat p)) (W p) < 200
                  · rw [if_pos q6]
                    by_cases q7 : 65535 < u_rg W L (p + g_len W (L - p).toNat p)
                    · rw [if_pos (show 65535 < g_va _ _ from q7)]
                      exact bad (fun y => by omega)
                    · rw [if_neg (show ¬ 65535 < g_va _ _ from q7)]
                      rw [if_pos ⟨by omega, q6, by omega⟩] at mk
                      exact mk _ _ _ _ rfl (by decide) m6 t6 s6
                  · rw [if_neg q6]
                    exact bad (fun y => q6 y.2.1)
              · rw [if_pos rfl]
                have e2 := num (d2 := d + 5) (fun y => z2 y.2.2.2.2) m6 _ (t4.tr t2) s6
                rw [q2] at e2
                rw [q2]
                exact e2
            · rw [if_pos (by decide)]
              have e2 := num (d2 := d + 5) (fun y => z1 y.2.2.2.1) m4 _ (x1.up.tr t1) s4
              rw [q2] at e2
              rw [q2]
              exact e2
      · rw [if_neg q2]
        exact num (fun z => q2 z.1) m1 p x1 x2
end TP
