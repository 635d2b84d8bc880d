/-! ===== strings; words of rows ===== -/
/-- a string: its bytes -/
def t_s (a : Int) (l : List Int) : Prop := 0 ≤ a ∧ a < 350 ∧ a.toNat % 2 = 0 ∧ ∃ h, w_sl[a.toNat / 2]? = some (l, h)
theorem t_sl_ok : ∀ q ∈ w_sl, q.1.length < 100000 ∧ ∀ c ∈ q.1, 0 ≤ c ∧ c < 128 := by decide +kernel
section TS
variable {S : Nat → Prop} {d : Nat} {m n : w_M} {a c : Int} {l : List Int} {Q : Int → w_M → Prop}
theorem t_s.ok (h : t_s a l) : l.length < 100000 ∧ ∀ c ∈ l, 0 ≤ c ∧ c < 128 := by
  obtain ⟨h0, h1, h2, g, h3⟩ := h
  exact t_sl_ok (l, g) (List.mem_of_getElem? h3)
theorem t_s.isS (h : t_s a l) : w_isS a := by
  obtain ⟨h0, h1, h2, g, h3⟩ := h
  refine ⟨h0, ?_⟩
  unfold w_sh0 w_shx
  rw [if_pos (by omega), if_pos (by omega), h3]
  exact if_pos h2
theorem t_s.arr (h : t_s a l) : w_sh0 (a + 1).toNat = some (.inr (1, l.length)) := by
  obtain ⟨h0, h1, h2, g, h3⟩ := h
  have e : (a + 1).toNat = a.toNat + 1 := by omega
  rw [e]
  unfold w_sh0 w_shx
  rw [if_pos (by omega), if_pos (by omega), show (a.toNat + 1) / 2 = a.toNat / 2 by omega, h3]
  exact if_neg (by omega)
theorem t_s.ln (h : t_s a l) : w_ln (a + 1) = l.length := w_ln_eq h.arr
theorem t_s.isR (h : t_s a l) : w_isR (a + 1) := ⟨1, l.length, h.arr, by decide, by have := h.ok.1; omega⟩
theorem t_s.isA (h : t_s a l) : w_isA 1 (a + 1) := ⟨l.length, h.arr⟩
theorem t_s.co (h : t_s a l) (hn : w_nm (w_G0 S) m) : m a 1 = 0 := by
  obtain ⟨h0, h1, h2, g, h3⟩ := h
  have e := hn.2.1 a.toNat (show a.toNat < 357 by omega) 1
  rw [show ((a.toNat : Nat) : Int) = a by omega] at e
  rw [e]
  show w_xm a 1 = 0
  unfold w_xm
  rw [if_pos h1, h3]
  dsimp only
  rw [if_pos h2, if_neg (by decide), if_neg (by decide)]
theorem t_s.by (h : t_s a l) (hn : w_nm (w_G0 S) m) (j : Int) : m (a + 1) j = l.getD j.toNat 0 := by
  obtain ⟨h0, h1, h2, g, h3⟩ := h
  have e := hn.2.1 (a.toNat + 1) (show a.toNat + 1 < 357 by omega) j
  rw [show ((a.toNat + 1 : Nat) : Int) = a + 1 by omega] at e
  rw [e]
  show w_xm (a + 1) j = _
  unfold w_xm
  rw [if_pos (by omega), show (a + 1).toNat / 2 = a.toNat / 2 by omega, h3]
  dsimp only
  rw [if_neg (by omega)]
theorem sp_length (hs : t_s a l) (h : Q (l.length : Int) m) : xc_js_length S (d + 2) a m Q := by
  refine w_C.nm (fun hn => ?_)
  apply xr_js_length hs.isS
  refine ⟨hs.isR, ?_⟩
  apply xr_js_coder hs.isS
  rw [hs.co hn, hs.ln]
  refine ⟨by decide, ?_⟩
  have := hs.ok.1
  rw [w_shr_v ⟨by omega, by omega⟩ (by decide) (by decide), show ((2 ^ (0 : Int).toNat : Nat) : Int) = 1 by rfl, Int.ediv_one]
  exact h
theorem sp_charAt (hs : t_s a l) {i : Nat} (hi : i < l.length) (h : Q (l.getD i 0) m) : xc_js_charAt S (d + 4) a i m Q := by
  refine w_C.nm (fun hn => ?_)
  apply xr_js_charAt hs.isS
  apply xr_js_isLatin1 hs.isS
  rw [if_pos (hs.co hn), if_neg (by decide)]
  apply xr_jl_charAt
  refine ⟨hs.isR, ?_⟩
  apply xr_js_checkIndex
  apply xr_jp_checkIndex
  have hok := hs.ok
  have e : l.getD i 0 = l[i] := by rw [List.getD_eq_getElem?_getD, List.getElem?_eq_getElem hi]; rfl
  have hc := hok.2 l[i] (List.getElem_mem hi)
  rw [hs.ln, if_neg (by omega), if_pos (by omega), hs.by hn, Int.toNat_natCast, e]
  rw [e] at h
  rw [show l[i] % 256 = l[i] by omega, w_c16_v (by omega) (by omega)]
  exact ⟨hs.isA, ⟨by omega, by omega⟩, ⟨by omega, by omega⟩, ⟨by omega, by omega⟩, h⟩
end TS
/-- just this word stands at p -/
def t_is (W : Int → Int) (L p : Int) (l : List Int) : Prop := g_len W (L - p).toNat p = l.length ∧ ∀ i : Nat, i < l.length → W (p + i) = l.getD i 0
/-- what the class's reading of a row keeps in mind is right -/
def c_ca (m : w_M) (P : Int) (W : Int → Int) (L : Int) : Prop := ∀ p, 0 ≤ p → p ≤ L → m P 11 = m P 3 + p → c_row m P W L p
/-- the class's parser P stands at p -/
def c_st (m : w_M) (P : Int) (W : Int → Int) (L p : Int) : Prop := v_c m P W L ∧ m P 4 = m P 3 + p ∧ 0 ≤ p ∧ p ≤ L ∧ c_ca m P W L
/-- the reference stands at p -/
def m_st (n : w_M) (W : Int → Int) (L p : Int) : Prop := v_m n W L ∧ L ≤ 200000 ∧ n 428 21 = p ∧ 0 ≤ p ∧ p ≤ L
/-- but for the place and the row nothing else has changed -/
def c_ch (m m' : w_M) (P : Int) : Prop := ∀ a b : Int, ¬ (a = P ∧ (b = 4 ∨ (11 ≤ b ∧ b ≤ 16))) → m' a b = m a b
section TC
variable {d : Nat} {m m' m2 n : w_M} {P L p p' : Int} {W : Int → Int} {Q : Int → w_M → Prop}
theorem c_ch.rf : c_ch m m P := fun _ _ _ => rfl
theorem c_ch.tr (h : c_ch m m' P) (h2 : c_ch m' m2 P) : c_ch m m2 P := fun a b q => (h2 a b q).trans (h a b q)
theorem c_ch.up (h : c_ch m m' P) {v : Int} : c_ch m (w_up m' P 4 v) P := by
  intro a b q
  rw [← h a b q]
  unfold w_up
  rw [if_neg (by omega)]
theorem v_c.ch (h : v_c m P W L) (hc : c_ch m m' P) : v_c m' P W L := by
  obtain ⟨h1, h2, h3, h4, h4b, h5, h6, h7, h8, h9⟩ := h
  have e2 : m' P 2 = m P 2 := hc _ _ (by omega)
  have e3 : m' P 3 = m P 3 := hc _ _ (by omega)
  have e5 : m' P 5 = m P 5 := hc _ _ (by omega)
  refine ⟨h1, h2, ?_, ?_, ?_, ?_, ?_, ?_, ?_, fun i q1 q2 => ?_⟩
  · rw [e2]; exact h3
  · rw [e2]; exact h4
  · rw [e2]; exact h4b
  · rw [e3]; exact h5
  · rw [e3, e5]; exact h6
  · rw [e2, e5]; exact h7
  · rw [e2]; exact h8
  · rw [e2, e3, hc _ _ (fun e => w_isP_na h2 h4 e.1.symm)]; exact h9 i q1 q2
theorem c_row.ch (h : c_row m P W L p) (h3 : m' P 3 = m P 3) (h12 : m' P 12 = m P 12) (h13 : m' P 13 = m P 13) (h14 : m' P 14 = m P 14) (h15 : m' P 15 = m P 15) (h16 : m' P 16 = m P 16) : c_row m' P W L p := by
  unfold c_row at h ⊢
  rw [h3, h12, h13, h14, h15, h16]
  exact h
theorem c_ca.mv (h : c_ca m P W L) {v : Int} : c_ca (w_up m P 4 v) P W L := by
  intro p h0 h1 he
  rw [w_up_nb (by decide), w_up_nb (by decide)] at he
  exact (h p h0 h1 he).ch (w_up_nb (by decide)) (w_up_nb (by decide)) (w_up_nb (by decide)) (w_up_nb (by decide)) (w_up_nb (by decide)) (w_up_nb (by decide))
/-- to another place -/
theorem c_st.mv (h : c_st m P W L p) (h0 : 0 ≤ p') (h1 : p' ≤ L) : c_st (w_up m P 4 (m P 3 + p')) P W L p' := by
  obtain ⟨k1, k2, k3, k4, k5⟩ := h
  exact ⟨k1.up (by decide), by rw [w_up_eq, w_up_nb (by decide)], h0, h1, k5.mv⟩
theorem sp_look (h : c_st m P W L p) (hQ : ∀ m', c_ch m m' P → c_st m' P W L p → c_row m' P W L p → m' P 3 = m P 3 → Q 0 m') : xc_ps_lookAtRow (d + 2) P m Q := by
  obtain ⟨k1, k2, k3, k4, k5⟩ := h
  by_cases q : m P 11 = m P 4
  · apply xr_ps_lookAtRow k1.2.1
    rw [if_pos q]
    exact hQ m c_ch.rf ⟨k1, k2, k3, k4, k5⟩ (k5 p k3 k4 (by omega)) rfl
  · refine sp_lookAtRow k1 k2 k3 k4 q (fun m' h1 h2 h3 => ?_)
    have hc : c_ch m m' P := fun a b z => h1 a b (fun y => z ⟨y.1, Or.inr y.2⟩)
    have e3 : m' P 3 = m P 3 := hc _ _ (by omega)
    have e4 : m' P 4 = m P 4 := h1 _ _ (by omega)
    refine hQ m' hc ⟨k1.ch hc, by omega, k3, k4, fun p2 y1 y2 y3 => ?_⟩ h3 e3
    rw [show p2 = p by omega]
    exact h3
theorem sp_white_c (h : c_st m P W L p) (hQ : c_st (w_up m P 4 (m P 3 + k_w W (L - p).toNat false p)) P W L (k_w W (L - p).toNat false p) → Q 0 (w_up m P 4 (m P 3 + k_w W (L - p).toNat false p))) : xc_ps_skipWhite (d + 2) P m Q := by
  have h' := h
  obtain ⟨k1, k2, k3, k4, k5⟩ := h
  have hk := k_w_r W (L - p).toNat false p
  exact sp_skipWhite k1 k2 k3 k4 (hQ (h'.mv (by omega) (by omega)))
theorem sp_rowIs_20 {a : Int} {l : List Int} (hs : t_s a l) (h : c_st m P W L p) (hl : g_len W (L - p).toNat p = l.length) (h1 : t_is W L p l → Q 1 m) (h0 : ¬ t_is W L p l → Q 0 m) :
    ∀ (q k : Nat), k + q = l.length → (∀ i : Nat, i < k → W (p + i) = l.getD i 0) → xp_ps_rowIs_20 (d + 4) P a k m Q := by
  intro q
  obtain ⟨k1, k2, k3, k4, k5⟩ := h
  have hlen := hs.ok.1
  have hL : L ≤ 200000 := by
    obtain ⟨⟨v1, v2, v3⟩, h2, h3, h4, h4b, h5, h6, h7, h8, h9⟩ := k1
    omega
  have hB : m P 3 ≤ 200000 ∧ 0 ≤ m P 3 := by
    obtain ⟨⟨v1, v2, v3⟩, h2, h3, h4, h4b, h5, h6, h7, h8, h9⟩ := k1
    omega
  induction q with
  | zero =>
    intro k hk hb
    apply xr_ps_rowIs_20 k1.2.1
    refine ⟨hs.isS, ?_⟩
    refine sp_length hs ?_
    rw [if_neg (by omega)]
    exact h1 ⟨hl, fun i hi => hb i (by omega)⟩
  | succ q ih =>
    intro k hk hb
    apply xr_ps_rowIs_20 k1.2.1
    refine ⟨hs.isS, ?_⟩
    refine sp_length hs ?_
    rw [if_pos (by omega), w_32_id (by omega) (by omega)]
    refine sp_ps_at k1 (i := p + k) (by omega) ?_
    refine ⟨hs.isS, ?_⟩
    refine sp_charAt hs (by omega) ?_
    by_cases e : W (p + k) = l.getD k 0
    · rw [if_pos e, w_32_id (by omega) (by omega), show (k : Int) + 1 = ((k + 1 : Nat) : Int) by omega]
      refine ih (k + 1) (by omega) (fun i hi => ?_)
      by_cases z : i = k
      · rw [z]; exact e
      · exact hb i (by omega)
    · rw [if_neg e]
      exact h0 (fun z => e (z.2 k (by omega)))
theorem sp_rowIs {a : Int} {l : List Int} (hs : t_s a l) (h : c_st m P W L p) (hr : c_row m P W L p) (h1 : t_is W L p l → Q 1 m) (h0 : ¬ t_is W L p l → Q 0 m) : xc_ps_rowIs (d + 5) P a m Q := by
  have hg := g_len_le W (L - p).toNat p
  have hlen := hs.ok.1
  have hh := h
  obtain ⟨k1, k2, k3, k4, k5⟩ := h
  have hL : L ≤ 200000 := by
    obtain ⟨⟨v1, v2, v3⟩, h2, h3, h4, h4b, h5, h6, h7, h8, h9⟩ := k1
    omega
  apply xr_ps_rowIs k1.2.1
  refine ⟨hs.isS, ?_⟩
  refine sp_length hs ?_
  rw [hr.1, k2, w_32_id (by omega) (by omega), show m P 3 + p + (g_len W (L - p).toNat p : Int) - (m P 3 + p) = (g_len W (L - p).toNat p : Int) by omega]
  by_cases e : (g_len W (L - p).toNat p : Int) = (l.length : Int)
  · rw [if_pos e]
    exact sp_rowIs_20 hs hh (by omega) h1 h0 l.length 0 (by omega) (fun i hi => absurd hi (Nat.not_lt_zero i))
  · rw [if_neg e]
    exact h0 (fun z => e (by rw [z.1]))
theorem sp_wordHere {a : Int} {l : List Int} (hs : t_s a l) (h : c_st m P W L p) (h1 : t_is W L p l → ∀ m', c_ch m m' P → c_st m' P W L (p + l.length) → Q 1 m') (h0 : ¬ t_is W L p l → ∀ m', c_ch m m' P → c_st m' P W L p → Q 0 m') : xc_ps_wordHere (d + 6) P a m Q := by
  apply xr_ps_wordHere h.1.2.1
  refine sp_look h (fun m' x1 x2 x3 x4 => ?_)
  have hg := g_len_le W (L - p).toNat p
  obtain ⟨k1, k2, k3, k4, k5⟩ := h
  refine sp_rowIs hs x2 x3 (fun y => ?_) (fun y => ?_)
  · rw [if_neg (by decide), x3.1, show m' P 3 + p + (g_len W (L - p).toNat p : Int) = m' P 3 + (p + g_len W (L - p).toNat p) by omega]
    refine h1 y _ x1.up ?_
    rw [y.1]
    exact x2.mv (by omega) (by have := y.1; omega)
  · rw [if_pos rfl]
    exact h0 y m' x1 x2
/-- behind white: the word, or it stays there -/
theorem sp_word {a : Int} {l : List Int} (hs : t_s a l) (h : c_st m P W L p) (hp' : p' = k_w W (L - p).toNat false p) (h1 : t_is W L p' l → ∀ m', c_ch m m' P → c_st m' P W L (p' + l.length) → Q 1 m') (h0 : ¬ t_is W L p' l → ∀ m', c_ch m m' P → c_st m' P W L p' → Q 0 m') : xc_ps_word (d + 6) P a m Q := by
  apply xr_ps_word h.1.2.1
  refine sp_white_c h (fun x0 => ?_)
  rw [← hp'] at x0 ⊢
  refine sp_look x0 (fun m' x1 x2 x3 x4 => ?_)
  have x1 : c_ch m m' P := (c_ch.rf.up).tr x1
  have hg := g_len_le W (L - p').toNat p'
  obtain ⟨k1, k2, k3, k4, k5⟩ := x2
  refine sp_rowIs hs ⟨k1, k2, k3, k4, k5⟩ x3 (fun y => ?_) (fun y => ?_)
  · rw [if_neg (by decide), x3.1, show m' P 3 + p' + (g_len W (L - p').toNat p' : Int) = m' P 3 + (p' + g_len W (L - p').toNat p') by omega]
    refine ⟨Or.inr rfl, h1 y _ x1.up ?_⟩
    rw [y.1]
    exact c_st.mv (p := p') ⟨k1, k2, k3, k4, k5⟩ (by omega) (by have := y.1; omega)
  · rw [if_pos rfl, w_up_id rfl]
    exact ⟨Or.inl rfl, h0 y m' x1 ⟨k1, k2, k3, k4, k5⟩⟩
/-- behind white: a whole without a sign, or -1 -/
def t_un (W : Int → Int) (L p : Int) : Prop := g_kd (g_s W p (g_len W (L - p).toNat p)) = 2 ∧ ¬ (W p = 43 ∨ W p = 45) ∧ ¬ g_by (g_s W p (g_len W (L - p).toNat p)) (W p)
theorem sp_unsigned (h : c_st m P W L p) (hp' : p' = k_w W (L - p).toNat false p) (h1 : t_un W L p' → ∀ m', c_ch m m' P → c_st m' P W L (p' + g_len W (L - p').toNat p') → Q (g_va (g_s W p' (g_len W (L - p').toNat p')) (W p')) m') (h0 : ¬ t_un W L p' → ∀ m', c_ch m m' P → c_st m' P W L p' → Q (-1) m') : xc_ps_unsigned (d + 3) P m Q := by
  apply xr_ps_unsigned h.1.2.1
  refine sp_white_c h (fun x0 => ?_)
  rw [← hp'] at x0 ⊢
  refine sp_look x0 (fun m' x1 x2 x3 x4 => ?_)
  have x1 : c_ch m m' P := (c_ch.rf.up).tr x1
  have hg := g_len_le W (L - p').toNat p'
  obtain ⟨r1, r2, r3, r4⟩ := x3
  by_cases q1 : g_kd (g_s W p' (g_len W (L - p').toNat p')) = 2
  · rw [r2, if_pos q1]
    by_cases q2 : W p' = 43 ∨ W p' = 45
    · rw [if_pos q2] at r4
      rw [if_neg (by omega)]
      exact h0 (fun z => z.2.1 q2) m' x1 x2
    · rw [if_neg q2] at r4
      rw [if_pos r4]
      rcases r3 with ⟨r5, r6⟩ | ⟨r5, r6, r7⟩
      · rw [if_neg (by omega)]
        exact h0 (fun z => z.2.2 r6) m' x1 x2
      · rw [if_pos r5, r7, r1, show m' P 3 + p' + (g_len W (L - p').toNat p' : Int) = m' P 3 + (p' + g_len W (L - p').toNat p') by omega]
        obtain ⟨k1, k2, k3, k4, k5⟩ := x2
        exact h1 ⟨q1, q2, r6⟩ _ x1.up (c_st.mv (p := p') ⟨k1, k2, k3, k4, k5⟩ (by omega) (by omega))
  · rw [r2, if_neg q1]
    exact h0 (fun z => q1 z.1) m' x1 x2
end TC
