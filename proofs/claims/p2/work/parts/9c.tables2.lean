/-! ===== sections: a table whole, the class ===== -/
def e_trailer : List Int := [116, 114, 97, 105, 108, 101, 114]
theorem t_ctrailer : t_s 30 e_trailer := ⟨by decide, by decide, by decide, _, rfl⟩
theorem t_mtrailer : t_s 316 e_trailer := ⟨by decide, by decide, by decide, _, rfl⟩
def e_kw (W : Int → Int) (L p : Int) : Int := k_w W (L - p).toNat false p
section EV
variable {d : Nat} {m m' m2 n n' n2 : w_M} {Q : Int → w_M → Prop} {W : Int → Int} {L p p' q f a k0 : Int} {k : Nat} {e : e_E}
theorem e_dn0 {W : Int → Int} {p : Int} : ∀ j : Nat, (∀ i : Nat, i < j → b_dig (W (p + i))) → 0 ≤ t_dn W p j := by
  intro j
  induction j with
  | zero => intro _; exact Int.le_refl _
  | succ j ih =>
    intro h
    have h1 := ih (fun i hi => h i (by omega))
    have h2 := h j (by omega)
    show 0 ≤ t_dn W p j * 10 + (W (p + j) - 48)
    omega
theorem e_v0 (W : Int → Int) (L p : Int) : 0 ≤ e_v W L p := e_dn0 _ (fun i hi => t_dl_dig W _ p i hi)
theorem e_kw_b (W : Int → Int) : ∀ (k : Nat) (p : Int), k_w W k false p = k_w W (k - (k_b W k p - p).toNat) false (k_b W k p) := by
  intro k
  induction k with
  | zero => intro p; show p = k_w W (0 - (p - p).toNat) false p; rw [Int.sub_self]; rfl
  | succ k ih =>
    intro p
    have r := k_b_r W k (p + 1)
    by_cases q : b_w (W p)
    · have e1 : k_b W (k + 1) p = k_b W k (p + 1) := if_pos q
      have e2 : k_w W (k + 1) false p = k_w W k false (p + 1) := by
        show (if W p = 10 ∨ W p = 13 then k_w W k false (p + 1) else if W p = 37 then k_w W k true (p + 1) else if false = false ∧ ¬ b_w (W p) then p else k_w W k false (p + 1)) = _
        by_cases z : W p = 10 ∨ W p = 13
        · rw [if_pos z]
        · rw [if_neg z, if_neg (by omega), if_neg (fun w => w.2 q)]
      rw [e1, e2, ih (p + 1)]
      congr 1
      omega
    · have e1 : k_b W (k + 1) p = p := if_neg q
      rw [e1, Int.sub_self]
      rfl
theorem e_kw_nb (h0 : 0 ≤ p) (h1 : p ≤ L) : e_kw W L (e_nb W L p) = e_kw W L p := by
  unfold e_kw e_nb
  have r := k_b_r W (L - p).toNat p
  rw [e_kw_b W (L - p).toNat p]
  congr 1
  omega
theorem e_nb_r (h0 : 0 ≤ p) (h1 : p ≤ L) : p ≤ e_nb W L p ∧ e_nb W L p ≤ L := by
  have r := k_b_r W (L - p).toNat p
  unfold e_nb
  omega
theorem e_e_r (h0 : 0 ≤ p) (h1 : p ≤ L) : p ≤ e_e W L p ∧ e_e W L p ≤ L := by
  have r := t_dl_le W (L - p).toNat p
  unfold e_e
  omega
theorem e_el_r (hok : v_ok W L) (h : 0 ≤ e_el W p) (h0 : 0 ≤ p) : p < e_el W p ∧ e_el W p ≤ L := by
  obtain ⟨_, _, v3⟩ := hok
  have g1 := v3 p
  have g2 := v3 (p + 1)
  have x1 : W p ≠ -1 → p < L := fun z => by
    rcases Int.lt_or_le p L with y | y
    · exact y
    · exact absurd (g1 (Or.inr y)) z
  have x2 : W (p + 1) ≠ -1 → p + 1 < L := fun z => by
    rcases Int.lt_or_le (p + 1) L with y | y
    · exact y
    · exact absurd (g2 (Or.inr y)) z
  unfold e_el at h ⊢
  by_cases q1 : W p = 13
  · have y1 := x1 (by omega)
    rw [if_pos q1]
    by_cases q2 : W (p + 1) = 10
    · have y2 := x2 (by omega)
      rw [if_pos q2]; omega
    · rw [if_neg q2]; omega
  · rw [if_neg q1] at h ⊢
    by_cases q2 : W p = 10
    · have y1 := x1 (by omega)
      rw [if_pos q2]; omega
    · rw [if_neg q2] at h; omega
theorem e_ens_r (hok : v_ok W L) : ∀ (k : Nat) (f p : Int) (es : List e_E) (e : Int), p ≤ L → e_ens W k f p = some (es, e) → p ≤ e ∧ e ≤ L := by
  intro k
  induction k with
  | zero =>
    intro f p es e h1 h
    have := (Prod.mk.inj (Option.some.inj h)).2
    omega
  | succ k ih =>
    intro f p es e h1 h
    by_cases z : e_is W p
    · have zi := z.in hok
      rw [e_ens_s z] at h
      obtain ⟨r, hr, hr2⟩ := Option.map_eq_some_iff.mp h
      have := ih (f + 1) (p + 20) r.1 r.2 (by omega) hr
      have e2 := (Prod.mk.inj hr2).2
      omega
    · rw [e_ens_n z] at h
      cases h
theorem sp_lineEnd (h : e_J m W L p) (h1 : 0 ≤ e_el W p → e_J (w_up m 376 4 (m 376 3 + e_el W p)) W L (e_el W p) → Q 1 (w_up m 376 4 (m 376 3 + e_el W p))) (h0 : e_el W p < 0 → Q 0 m) : xc_ps_skipLineEnd (d + 2) 376 m Q := by
  obtain ⟨hok, b1, b2, b3, b4, b5, b6⟩ := e_bd h
  apply xr_ps_skipLineEnd (Or.inl rfl)
  refine sp_ps_at h.1.1 b4 ?_
  have er := e_el_r (W := W) (p := p) hok
  unfold e_el at h1 h0 er
  by_cases q1 : W p = 13
  · rw [if_pos q1] at h1 h0 er ⊢
    rw [b4, w_32_id (x := m 376 3 + p + 1) (by omega) (by omega), w_32_id (x := m 376 3 + p + 2) (by omega) (by omega)]
    refine sp_ps_at h.1.1 (i := p + 1) (by omega) ?_
    by_cases q2 : W (p + 1) = 10
    · rw [if_pos q2] at h1 h0 er ⊢
      have := h1 (by omega) (h.mv (by omega) (by omega))
      rw [show m 376 3 + (p + 2) = m 376 3 + p + 2 by omega] at this
      exact this
    · rw [if_neg q2] at h1 h0 er ⊢
      have := h1 (by omega) (h.mv (by omega) (by omega))
      rw [show m 376 3 + (p + 1) = m 376 3 + p + 1 by omega] at this
      exact this
  · rw [if_neg q1] at h1 h0 er ⊢
    by_cases q2 : W p = 10
    · rw [if_pos q2] at h1 h0 er ⊢
      rw [b4, w_32_id (x := m 376 3 + p + 1) (by omega) (by omega)]
      have := h1 (by omega) (h.mv (by omega) (by omega))
      rw [show m 376 3 + (p + 1) = m 376 3 + p + 1 by omega] at this
      exact this
    · rw [if_neg q2] at h1 h0 ⊢
      exact h0 (by decide)
/-- one step of a table -/
theorem e_tab_0 (h : ¬ b_dig (W (e_nb W L p))) : e_tab W L (k + 1) true p = some ([], p) := if_pos ⟨rfl, h⟩
theorem e_tab_n1 {any : Bool} (h : ¬ (any = true ∧ ¬ b_dig (W (e_nb W L p)))) (h1 : ¬ t_rdg W L (e_nb W L p)) : e_tab W L (k + 1) any p = none := (if_neg h).trans (if_pos h1)
theorem e_rdg_d (h : t_rdg W L q) : b_dig (W q) := by
  have := t_dl_dig W (L - q).toNat q 0 h.1
  rw [show q + ((0 : Nat) : Int) = q by omega] at this
  exact this
theorem e_tab_s1 {any : Bool} (h1 : t_rdg W L (e_nb W L p)) (h2 : ¬ t_rdg W L (e_nb W L (e_e W L (e_nb W L p)))) : e_tab W L (k + 1) any p = none :=
  (if_neg (fun z : any = true ∧ ¬ b_dig (W (e_nb W L p)) => z.2 (e_rdg_d h1))).trans ((if_neg (fun z : ¬ t_rdg W L (e_nb W L p) => z h1)).trans (if_pos h2))
theorem e_tab_s {any : Bool} (h1 : t_rdg W L (e_nb W L p)) (h2 : t_rdg W L (e_nb W L (e_e W L (e_nb W L p)))) : e_tab W L (k + 1) any p = (if 200 < e_v W L (e_nb W L p) + e_v W L (e_nb W L (e_e W L (e_nb W L p))) then none
    else if e_s W (e_e W L (e_nb W L (e_e W L (e_nb W L p)))) < 0 then none
    else (e_ens W (e_v W L (e_nb W L (e_e W L (e_nb W L p)))).toNat (e_v W L (e_nb W L p)) (e_s W (e_e W L (e_nb W L (e_e W L (e_nb W L p)))))).bind (fun r => (e_tab W L k true r.2).map (fun r2 => (r.1 ++ r2.1, r2.2)))) :=
  (if_neg (fun z : any = true ∧ ¬ b_dig (W (e_nb W L p)) => z.2 (e_rdg_d h1))).trans ((if_neg (fun z : ¬ t_rdg W L (e_nb W L p) => z h1)).trans (if_neg (fun z : ¬ t_rdg W L (e_nb W L (e_e W L (e_nb W L p))) => z h2)))
theorem sp_blanks1 (h : e_J m W L p) (hQ : e_J (w_up m 376 4 (m 376 3 + e_nb W L p)) W L (e_nb W L p) → Q 0 (w_up m 376 4 (m 376 3 + e_nb W L p))) : xc_ps_skipBlanks (d + 2) 376 m Q := by
  obtain ⟨hok, b1, b2, b3, b4, b5, b6⟩ := e_bd h
  have r := e_nb_r (W := W) b5 b6
  exact sp_skipBlanks h.1.1 b4 b5 b6 (hQ (h.mv (by omega) (by omega)))
theorem e_up4 {v : Int} : e_cf m (w_up m 376 4 v) := fun i j q1 q2 q3 => by unfold w_up; rw [if_neg (by omega)]
theorem sp_readTable_2 : ∀ (k : Nat) (p i : Int) (m : w_M), L - p < k → 0 ≤ i → i ≤ p → e_J m W L p →
    (∀ es e, e_tab W L k (decide (0 < i)) p = some (es, e) → t_is W L (e_kw W L e) e_trailer → ∀ m', e_cf m m' → m' 376 6 = m 376 6 → e_J m' W L (e_kw W L e + 7) → e_cT m' = es.foldl e_ct (e_cT m) → p ≤ e → e ≤ L → Q 1 m') →
    ((∀ es e, e_tab W L k (decide (0 < i)) p = some (es, e) → ¬ t_is W L (e_kw W L e) e_trailer) → ∀ m', e_cf m m' → Q 0 m') → xp_se_readTable_2 (d + 7) a i m Q := by
  intro k
  induction k with
  | zero =>
    intro p i m hk i0 ip h H1 H0
    obtain ⟨hok, b1, b2, b3, b4, b5, b6⟩ := e_bd h
    omega
  | succ k ih =>
    intro p i m hk i0 ip h H1 H0
    obtain ⟨hok, b1, b2, b3, b4, b5, b6⟩ := e_bd h
    have r1 := e_nb_r (W := W) b5 b6
    apply xr_se_readTable_2
    rw [if_neg (by omega)]
    refine sp_blanks1 (d := d + 5) h (fun j1 => ?_)
    have c1 : e_cf m (w_up m 376 4 (m 376 3 + e_nb W L p)) := e_up4
    have T1 : e_cT (w_up m 376 4 (m 376 3 + e_nb W L p)) = e_cT m := rfl
    obtain ⟨m1, hm1⟩ : ∃ m1, m1 = w_up m 376 4 (m 376 3 + e_nb W L p) := ⟨_, rfl⟩
    rw [← hm1] at j1 c1 T1 ⊢
    obtain ⟨b, hb⟩ : ∃ b, b = e_nb W L p := ⟨_, rfl⟩
    rw [← hb] at j1 r1
    -- what fails
    have fail : e_tab W L (k + 1) (decide (0 < i)) p = none → ∀ m', e_cf m m' → Q 0 m' := fun e m' c => H0 (fun es e2 y => by rw [e] at y; cases y) m' c
    refine sp_rowOfDigits (d := d + 4) j1.1 (fun z j2 => ?_) (fun z => ?_)
    · -- a number
      have ev : min (t_dn W b (t_dl W (L - b).toNat b)) 1099511627776 = min (e_v W L b) 1099511627776 := rfl
      have ee : b + (t_dl W (L - b).toNat b : Int) = e_e W L b := rfl
      have v0 := e_v0 W L b
      have r2 := e_e_r (W := W) (L := L) (p := b) (by omega) (by omega)
      rw [ev, ee, if_neg (by omega)]
      have j2 : e_J (w_up m1 376 4 (m1 376 3 + e_e W L b)) W L (e_e W L b) := j1.mv (by omega) (by omega)
      have c2 : e_cf m (w_up m1 376 4 (m1 376 3 + e_e W L b)) := c1.tr e_up4
      have T2 : e_cT (w_up m1 376 4 (m1 376 3 + e_e W L b)) = e_cT m := T1
      obtain ⟨m2, hm2⟩ : ∃ m2, m2 = w_up m1 376 4 (m1 376 3 + e_e W L b) := ⟨_, rfl⟩
      rw [← hm2] at j2 c2 T2 ⊢
      apply xr_se_readTable_48
      refine sp_blanks1 (d := d + 5) j2 (fun j3 => ?_)
      have r3 := e_nb_r (W := W) (L := L) (p := e_e W L b) (by omega) (by omega)
      have c3 : e_cf m (w_up m2 376 4 (m2 376 3 + e_nb W L (e_e W L b))) := c2.tr e_up4
      have T3 : e_cT (w_up m2 376 4 (m2 376 3 + e_nb W L (e_e W L b))) = e_cT m := T2
      obtain ⟨m3, hm3⟩ : ∃ m3, m3 = w_up m2 376 4 (m2 376 3 + e_nb W L (e_e W L b)) := ⟨_, rfl⟩
      rw [← hm3] at j3 c3 T3 ⊢
      obtain ⟨b2', hb2⟩ : ∃ b2', b2' = e_nb W L (e_e W L b) := ⟨_, rfl⟩
      rw [← hb2] at j3 r3
      refine sp_rowOfDigits (d := d + 4) j3.1 (fun z2 j4 => ?_) (fun z2 => ?_)
      · have ev2 : min (t_dn W b2' (t_dl W (L - b2').toNat b2')) 1099511627776 = min (e_v W L b2') 1099511627776 := rfl
        have ee2 : b2' + (t_dl W (L - b2').toNat b2' : Int) = e_e W L b2' := rfl
        have v02 := e_v0 W L b2'
        have r4 := e_e_r (W := W) (L := L) (p := b2') (by omega) (by omega)
        have zl : 0 < t_dl W (L - b).toNat b := z.1
        have bb : b < e_e W L b := by
          rw [← ee]
          omega
        rw [ev2, ee2, if_neg (by omega), if_neg (by omega), w_64_id (x := min (e_v W L b) 1099511627776 + min (e_v W L b2') 1099511627776) (by omega) (by omega)]
        have j4 : e_J (w_up m3 376 4 (m3 376 3 + e_e W L b2')) W L (e_e W L b2') := j3.mv (by omega) (by omega)
        have c4 : e_cf m (w_up m3 376 4 (m3 376 3 + e_e W L b2')) := c3.tr e_up4
        have T4 : e_cT (w_up m3 376 4 (m3 376 3 + e_e W L b2')) = e_cT m := T3
        obtain ⟨m4, hm4⟩ : ∃ m4, m4 = w_up m3 376 4 (m3 376 3 + e_e W L b2') := ⟨_, rfl⟩
        rw [← hm4] at j4 c4 T4 ⊢
        have es := e_tab_s (k := k) (any := decide (0 < i)) (W := W) (L := L) (p := p) (by rw [← hb]; exact z) (by rw [← hb, ← hb2]; exact z2)
        rw [← hb, ← hb2] at es
        by_cases q1 : 200 < e_v W L b + e_v W L b2'
        · rw [if_pos (by omega)]
          rw [if_pos q1] at es
          exact sp_fail1 (Or.inl rfl) (fun m' c' _ => fail es m' (c4.tr (fun i j w1 w2 w3 => c' i j (by omega))))
        · rw [if_neg (by omega)]
          rw [if_neg q1] at es
          obtain ⟨_, d1, d2, d3, d4, d5, d6⟩ := e_bd j4
          have g4 : m4 376 6 = m 376 6 := by rw [hm4, w_up_nb (by decide), hm3, w_up_nb (by decide), hm2, w_up_nb (by decide), hm1, w_up_nb (by decide)]
          refine sp_ps_at j4.1.1 d4 ?_
          obtain ⟨x, hx⟩ : ∃ x, x = e_e W L b2' + (if W (e_e W L b2') = 32 then 1 else 0) := ⟨_, rfl⟩
          have esx : e_s W (e_e W L b2') = e_el W x := by rw [hx]; rfl
          rw [esx] at es
          have v1 : w_32 (min (e_v W L b) 1099511627776) = e_v W L b := by rw [show min (e_v W L b) 1099511627776 = e_v W L b by omega]; exact w_32_id (by omega) (by omega)
          have v2 : w_32 (min (e_v W L b2') 1099511627776) = e_v W L b2' := by rw [show min (e_v W L b2') 1099511627776 = e_v W L b2' by omega]; exact w_32_id (by omega) (by omega)
          have xr : e_e W L b2' ≤ x ∧ x ≤ L := by
            rw [hx]
            by_cases q2 : W (e_e W L b2') = 32
            · rw [if_pos q2]
              have := hok.2.2 (e_e W L b2')
              omega
            · rw [if_neg q2]; omega
          -- behind the line's end
          have line : ∀ m5, e_J m5 W L x → e_cf m m5 → m5 376 6 = m 376 6 → e_cT m5 = e_cT m → xc_ps_skipLineEnd (d + 7) 376 m5 (fun r7 m7 => if r7 = 0 then (Q 0 m7) else (xc_se_readEntries (d + 7) (w_32 (min (e_v W L b) 1099511627776)) (w_32 (min (e_v W L b2') 1099511627776)) m7 (fun r8 m8 => if r8 = 0 then (Q 0 m8) else (xp_se_readTable_2 (d + 7) a (w_32 (i + 1)) m8 Q)))) := by
            intro m5 j5 c5 g5 T5
            refine sp_lineEnd (d := d + 5) j5 (fun l0 j6 => ?_) (fun l0 => ?_)
            · rw [if_neg (by decide), v1, v2]
              have lr := e_el_r hok l0 (by omega)
              rw [if_neg (by omega)] at es
              apply xr_se_readEntries
              have c6 : e_cf m (w_up m5 376 4 (m5 376 3 + e_el W x)) := c5.tr e_up4
              have T6 : e_cT (w_up m5 376 4 (m5 376 3 + e_el W x)) = e_cT m := T5
              refine sp_entries_2 (d := d + 2) (e_v W L b2').toNat 0 (e_el W x) _ (e_v W L b) (e_v W L b2') (by decide) (by omega) v0 (by omega) j6 (fun es1 e1 y m7 c7 g7 j7 T7 _ le7 => ?_) (fun y m7 c7 => ?_)
              · rw [if_neg (by decide), w_32_id (x := i + 1) (by omega) (by omega)]
                rw [Int.add_zero] at y
                rw [y] at es
                have er := e_ens_r hok _ _ _ _ _ lr.2 y
                have dt : decide (0 < i + 1) = true := decide_eq_true (by omega)
                have es : e_tab W L (k + 1) (decide (0 < i)) p = (e_tab W L k true e1).map (fun r2 => (es1 ++ r2.1, r2.2)) := es
                refine ih e1 (i + 1) m7 (by omega) (by omega) (by omega) j7 (fun es2 e2 y2 w m8 c8 g8 j8 T8 l8 l8' => ?_) (fun y2 m8 c8 => ?_)
                · rw [dt] at y2
                  rw [y2] at es
                  exact H1 (es1 ++ es2) e2 es w m8 ((c6.tr c7).tr c8) (g8.trans (g7.trans ((w_up_nb (by decide)).trans g5))) j8 (by rw [T8, T7, T6, List.foldl_append]) (by omega) l8'
                · rw [dt] at y2
                  refine H0 (fun es3 e3 y3 => ?_) m8 ((c6.tr c7).tr c8)
                  rw [es] at y3
                  obtain ⟨r, hr, hr2⟩ := Option.map_eq_some_iff.mp y3
                  have := y2 r.1 r.2 hr
                  rw [(Prod.mk.inj hr2).2] at this
                  exact this
              · rw [if_pos rfl]
                rw [Int.add_zero] at y
                rw [y] at es
                exact fail es m7 (c6.tr c7)
            · rw [if_pos rfl]
              rw [if_pos l0] at es
              exact fail es m5 c5
          by_cases q2 : W (e_e W L b2') = 32
          · rw [if_pos q2]
            rw [if_pos q2] at hx
            rw [d4, w_32_id (x := m4 376 3 + e_e W L b2' + 1) (by omega) (by omega), show m4 376 3 + e_e W L b2' + 1 = m4 376 3 + x by omega]
            exact line _ (j4.mv (by omega) (by omega)) (c4.tr e_up4) ((w_up_nb (by decide)).trans g4) T4
          · rw [if_neg q2]
            rw [if_neg q2] at hx
            have hx : x = e_e W L b2' := by omega
            exact line m4 (by rw [hx]; exact j4) c4 g4 T4
      · have es := e_tab_s1 (k := k) (any := decide (0 < i)) (W := W) (L := L) (p := p) (by rw [← hb]; exact z) (by rw [← hb, ← hb2]; exact z2)
        rw [if_neg (by omega), if_pos (by decide)]
        exact fail es m3 c3
    · -- no number
      rw [if_pos (by decide)]
      by_cases q : 0 < i
      · rw [if_pos q]
        have dt : decide (0 < i) = true := decide_eq_true q
        rw [dt] at H1 H0 fail
        have ekw : e_kw W L b = e_kw W L p := by rw [hb]; exact e_kw_nb b5 b6
        by_cases q2 : b_dig (W b)
        · have ef := e_tab_n1 (k := k) (any := true) (W := W) (L := L) (p := p) (fun w => w.2 (by rw [← hb]; exact q2)) (by rw [← hb]; exact z)
          have k1 : e_kw W L b = b := by
            unfold e_kw
            cases hl : (L - b).toNat with
            | zero => rfl
            | succ l =>
              show (if W b = 10 ∨ W b = 13 then k_w W l false (b + 1) else if W b = 37 then k_w W l true (b + 1) else if false = false ∧ ¬ b_w (W b) then b else k_w W l false (b + 1)) = b
              rw [if_neg (by omega), if_neg (by omega), if_pos ⟨rfl, by omega⟩]
          refine sp_word (d := d + 1) (p' := b) t_ctrailer j1.1 k1.symm (fun w => ?_) (fun w m' c' s' => ⟨Or.inl rfl, fail ef m' (c1.tr c'.ecf)⟩)
          have w0 := w.2 0 (by decide)
          have w0 : W (b + ((0 : Nat) : Int)) = 116 := w0
          rw [show b + ((0 : Nat) : Int) = b by omega] at w0
          omega
        · have ef := e_tab_0 (k := k) (W := W) (L := L) (p := p) (by rw [← hb]; exact q2)
          refine sp_word (d := d + 1) (p' := e_kw W L b) t_ctrailer j1.1 rfl (fun w m' c' s' => ⟨Or.inr rfl, ?_⟩) (fun w m' c' s' => ⟨Or.inl rfl, ?_⟩)
          · have T' : e_cT m' = e_cT m := by
              rw [← T1]
              have e1 : m' 367 = m1 367 := funext (fun x => c' _ _ (by omega))
              have e2 : m' 368 = m1 368 := funext (fun x => c' _ _ (by omega))
              have e3 : m' 369 = m1 369 := funext (fun x => c' _ _ (by omega))
              have e4 : m' 391 11 = m1 391 11 := c' _ _ (by omega)
              unfold e_cT
              rw [e1, e2, e3, e4]
            rw [ekw] at w s'
            exact H1 [] p ef w m' (c1.tr c'.ecf) (by rw [c' _ _ (by omega), hm1, w_up_nb (by decide)]) (j1.ch c' s') T' (Int.le_refl _) b6
          · rw [ekw] at w
            refine H0 (fun es3 e3 y3 => ?_) m' (c1.tr c'.ecf)
            rw [ef] at y3
            have := (Prod.mk.inj (Option.some.inj y3)).2
            rw [← this]
            exact w
      · rw [if_neg q]
        have dt : decide (0 < i) = false := decide_eq_false q
        rw [dt] at fail
        have ef := e_tab_n1 (k := k) (any := false) (W := W) (L := L) (p := p) (fun w => by cases w.1) (by rw [← hb]; exact z)
        apply xr_se_readTable_48
        refine sp_blanks1 (d := d + 5) j1 (fun j3 => ?_)
        have c3 : e_cf m (w_up m1 376 4 (m1 376 3 + e_nb W L b)) := c1.tr e_up4
        refine sp_rowOfDigits (d := d + 4) j3.1 (fun z2 j4 => ?_) (fun z2 => ?_)
        · rw [if_pos (by decide)]
          exact fail ef _ (c3.tr e_up4)
        · rw [if_pos (by decide)]
          exact fail ef _ c3
theorem sp_readTable (h : e_J m W L p) (H1 : ∀ es e, e_tab W L (L - p + 1).toNat false p = some (es, e) → t_is W L (e_kw W L e) e_trailer → ∀ m', e_cf m m' → m' 376 6 = m 376 6 → e_J m' W L (e_kw W L e + 7) → e_cT m' = es.foldl e_ct (e_cT m) → p ≤ e → e ≤ L → Q 1 m')
    (H0 : (∀ es e, e_tab W L (L - p + 1).toNat false p = some (es, e) → ¬ t_is W L (e_kw W L e) e_trailer) → ∀ m', e_cf m m' → Q 0 m') : xc_se_readTable (d + 8) a m Q := by
  obtain ⟨hok, b1, b2, b3, b4, b5, b6⟩ := e_bd h
  apply xr_se_readTable
  exact sp_readTable_2 (L - p + 1).toNat p 0 m (by omega) (by decide) b5 h H1 H0
end EV
