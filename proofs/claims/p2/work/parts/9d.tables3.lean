/-! ===== sections: a table whole, the reference ===== -/
section EW
variable {d : Nat} {m m' m2 n n' n2 : w_M} {Q : Int → w_M → Prop} {W : Int → Int} {L p p' q f a k0 : Int} {k : Nat} {e : e_E}
/-- the reference reads in a window, no fault yet -/
def e_K (n : w_M) (W : Int → Int) (L p : Int) : Prop := m_st n W L p ∧ (n 428 18 = 430 ∨ 440 < n 428 18 ∧ n 428 18 < 464) ∧ n 428 27 = 0
theorem e_K.mv (h : e_K n W L p) (h0 : 0 ≤ p') (h1 : p' ≤ L) : e_K (w_up n 428 21 p') W L p' := by
  obtain ⟨⟨a1, a2, a3, a4, a5⟩, h2, h3⟩ := h
  refine ⟨⟨a1.far (fun b q1 q2 => w_up_nb (by omega)) (fun b => w_up_ne (by omega)), a2, w_up_eq, h0, h1⟩, ?_, ?_⟩
  · rw [w_up_nb (by decide)]; exact h2
  · rw [w_up_nb (by decide)]; exact h3
theorem e_K.far (h : e_K n W L p) (hf : ∀ i j : Int, ¬ (464 ≤ i ∧ i ≤ 466) → ¬ (i = 428 ∧ j = 75) → n' i j = n i j) : e_K n' W L p := by
  obtain ⟨⟨a1, a2, a3, a4, a5⟩, h2, h3⟩ := h
  refine ⟨⟨a1.far (fun b q1 q2 => hf _ _ (by omega) (by omega)) (fun b => hf _ _ (by omega) (by omega)), a2, by rw [hf _ _ (by omega) (by omega)]; exact a3, a4, a5⟩, ?_, ?_⟩
  · rw [hf _ _ (by omega) (by omega)]; exact h2
  · rw [hf _ _ (by omega) (by omega)]; exact h3
theorem e_up21 {v : Int} : e_mf n (w_up n 428 21 v) := fun i j q1 q2 q3 => by unfold w_up; rw [if_neg (by omega)]
theorem r_isEntry_117 (h : e_K n W L p) : ∀ (k : Nat) (i v : Int), 0 ≤ i → i + k = 16 → (v = 0 ∨ v = 1) → ((v = 1 ∧ ∀ j, i ≤ j → j < 16 → j ≠ 10 → b_dig (W (p + j))) → Q 1 n) → (¬ (v = 1 ∧ ∀ j, i ≤ j → j < 16 → j ≠ 10 → b_dig (W (p + j))) → Q 0 n) → xp_m_isEntry_117 (d + 1) v i n Q := by
  obtain ⟨⟨a1, a2, a3, a4, a5⟩, _, _⟩ := h
  intro k
  induction k with
  | zero =>
    intro i v i0 hi hv h1 h0
    apply xr_m_isEntry_117
    rw [if_neg (by omega)]
    refine ⟨hv, ?_⟩
    rcases hv with y | y
    · rw [y]; exact h0 (fun w => by omega)
    · rw [y]; exact h1 ⟨y, fun j j0 j1 _ => by omega⟩
  | succ k ih =>
    intro i v i0 hi hv h1 h0
    apply xr_m_isEntry_117
    rw [if_pos (by omega), w_32_id (x := i + 1) (by omega) (by omega)]
    rcases hv with y | y
    · rw [if_pos y]
      exact ih (i + 1) 0 (by omega) (by omega) (Or.inl rfl) (fun w => by omega) (fun _ => h0 (fun w => by omega))
    · rw [if_neg (by omega)]
      by_cases q1 : i = 10
      · rw [if_pos q1]
        exact ih (i + 1) 1 (by omega) (by omega) (Or.inr rfl) (fun w => h1 ⟨y, fun j j0 j1 jn => w.2 j (by omega) j1 jn⟩) (fun w => h0 (fun w2 => w ⟨rfl, fun j j0 j1 jn => w2.2 j (by omega) j1 jn⟩))
      · rw [if_neg q1]
        refine sp_r_peek a1 a3 a4 (by omega) (by omega) (by omega) ?_
        refine sp_r_isDigit ?_
        by_cases q2 : b_dig (W (p + i))
        · rw [if_pos q2, if_neg (by decide)]
          refine ih (i + 1) 1 (by omega) (by omega) (Or.inr rfl) (fun w => h1 ⟨y, fun j j0 j1 jn => ?_⟩) (fun w => h0 (fun w2 => w ⟨rfl, fun j j0 j1 jn => w2.2 j (by omega) j1 jn⟩))
          by_cases z : j = i
          · rw [z]; exact q2
          · exact w.2 j (by omega) j1 jn
        · rw [if_neg q2, if_pos rfl]
          exact ih (i + 1) 0 (by omega) (by omega) (Or.inl rfl) (fun w => by omega) (fun _ => h0 (fun w => q2 (w.2 i (Int.le_refl _) (by omega) q1)))
theorem r_isEntry (h : e_K n W L p) (h1 : e_is W p → Q 1 n) (h0 : ¬ e_is W p → Q 0 n) : xc_m_isEntry (d + 2) n Q := by
  obtain ⟨⟨a1, a2, a3, a4, a5⟩, _, _⟩ := id h
  have pk : ∀ (j : Int) (R : Int → w_M → Prop), 0 ≤ j → j ≤ 200 → R (W (p + j)) n → xc_m_peek (d + 1) j n R := fun j R j0 j1 hR => sp_r_peek a1 a3 a4 (by omega) j0 (by omega) hR
  have bad : ¬ e_is W p → xp_m_isEntry_117 (d + 1) 0 0 n Q := fun z => r_isEntry_117 h 16 0 0 (by decide) (by decide) (Or.inl rfl) (fun w => by omega) (fun _ => h0 z)
  have fin : ∀ c : Prop, (c → xp_m_isEntry_117 (d + 1) 1 0 n Q) → True := fun _ _ => trivial
  apply xr_m_isEntry
  refine pk 10 _ (by decide) (by decide) ?_
  by_cases q1 : W (p + 10) = 32
  · rw [if_pos q1]
    refine pk 16 _ (by decide) (by decide) ?_
    by_cases q2 : W (p + 16) = 32
    · rw [if_pos q2]
      refine pk 17 _ (by decide) (by decide) ?_
      have good : (W (p + 17) = 110 ∨ W (p + 17) = 102) → xp_m_isEntry_49 (d + 1) 1 n Q := by
        intro q3
        have all : ((W (p + 18) = 32 ∧ (W (p + 19) = 13 ∨ W (p + 19) = 10)) ∨ (W (p + 18) = 13 ∧ W (p + 19) = 10)) → xp_m_isEntry_117 (d + 1) 1 0 n Q := by
          intro q4
          refine r_isEntry_117 h 16 0 1 (by decide) (by decide) (Or.inr rfl) (fun w => h1 ⟨fun j j0 j1 jn => w.2 j j0 j1 jn, q1, q2, q3, q4⟩) (fun w => h0 (fun w2 => w ⟨rfl, fun j j0 j1 jn => w2.1 j j0 j1 jn⟩))
        have e87 : xp_m_isEntry_87 (d + 1) n Q ∨ (W (p + 18) = 32 ∧ (W (p + 19) = 13 ∨ W (p + 19) = 10)) := by
          by_cases z : W (p + 18) = 32 ∧ (W (p + 19) = 13 ∨ W (p + 19) = 10)
          · exact Or.inr z
          · left
            apply xr_m_isEntry_87
            refine pk 18 _ (by decide) (by decide) ?_
            by_cases q5 : W (p + 18) = 13
            · rw [if_pos q5]
              refine pk 19 _ (by decide) (by decide) ?_
              by_cases q6 : W (p + 19) = 10
              · rw [if_pos q6]; exact all (Or.inr ⟨q5, q6⟩)
              · rw [if_neg q6]; exact bad (fun w => by have := w.2.2.2.2; omega)
            · rw [if_neg q5]; exact bad (fun w => by have := w.2.2.2.2; omega)
        apply xr_m_isEntry_49
        rw [if_neg (by decide)]
        refine pk 18 _ (by decide) (by decide) ?_
        by_cases q5 : W (p + 18) = 32
        · rw [if_pos q5]
          refine pk 19 _ (by decide) (by decide) ?_
          by_cases q6 : W (p + 19) = 13
          · rw [if_pos q6]; exact all (Or.inl ⟨q5, Or.inl q6⟩)
          · rw [if_neg q6]
            refine pk 19 _ (by decide) (by decide) ?_
            by_cases q7 : W (p + 19) = 10
            · rw [if_pos q7]; exact all (Or.inl ⟨q5, Or.inr q7⟩)
            · rw [if_neg q7]
              rcases e87 with w | w
              · exact w
              · omega
        · rw [if_neg q5]
          rcases e87 with w | w
          · exact w
          · omega
      have b49 : ¬ e_is W p → xp_m_isEntry_49 (d + 1) 0 n Q := by
        intro z
        apply xr_m_isEntry_49
        rw [if_pos rfl]
        exact bad z
      by_cases q3 : W (p + 17) = 110
      · rw [if_pos q3]; exact good (Or.inl q3)
      · rw [if_neg q3]
        refine pk 17 _ (by decide) (by decide) ?_
        by_cases q4 : W (p + 17) = 102
        · rw [if_pos q4]; exact good (Or.inr q4)
        · rw [if_neg q4]
          exact b49 (fun w => by have := w.2.2.2.1; omega)
    · rw [if_neg q2]
      apply xr_m_isEntry_49
      rw [if_pos rfl]
      exact bad (fun w => q2 w.2.2.1)
  · rw [if_neg q1]
    apply xr_m_isEntry_49
    rw [if_pos rfl]
    exact bad (fun w => q1 w.2.1)
/-- an entry is told to the reference -/
theorem r_tell {h w t : Int} (hf : 0 ≤ f ∧ f < 200) (hh : 0 ≤ h ∧ h ≤ 2) (hQ : ∀ n' : w_M, (∀ i j : Int, ¬ (464 ≤ i ∧ i ≤ 466) → ¬ (i = 428 ∧ j = 75) → n' i j = n i j) → e_rT n' = e_rt (e_rT n) (f, h, w, t) → Q 0 n') : xc_m_tell (d + 1) f h w t n Q := by
  have e8 : w_8 (w_8 h) = h := by rw [w_8_8]; exact w_8_id (by omega) (by omega)
  have key : ∀ s : Int, s = max (n 428 75) f → xp_m_tell_17 d f h w t s n Q := by
    intro s hs
    apply xr_m_tell_17
    refine ⟨by omega, ?_⟩
    rw [w_up_ne (by decide)]
    by_cases q1 : n 464 f < 0
    · rw [if_pos q1, e8]
      refine ⟨by omega, by omega, by omega, ?_⟩
      refine hQ _ (fun i j z1 z2 => ?_) ?_
      · unfold w_up
        rw [if_neg (by omega), if_neg (by omega), if_neg (by omega), if_neg (by omega)]
      · have c : (e_rT n).1 f < 0 := q1
        have e : e_rt (e_rT n) (f, h, w, t) = (e_set (n 464) f h, e_set (n 465) f w, e_set (n 466) f t, max (n 428 75) f) := if_pos c
        rw [e]
        unfold e_rT
        rw [e_up3n (by decide), e_up3n (by decide), e_up3, e_up3n (by decide), e_up3n (by decide), e_up3, e_up3n (by decide), e_up3n (by decide), e_up3, e_up3n (by decide), e_up3n (by decide), e_up3n (by decide)]
        rw [w_up_ne (by decide), w_up_ne (by decide), w_up_ne (by decide), w_up_eq, hs]
    · rw [if_neg q1]
      refine hQ _ (fun i j z1 z2 => ?_) ?_
      · unfold w_up
        rw [if_neg (by omega)]
      · have e : e_rt (e_rT n) (f, h, w, t) = (n 464, n 465, n 466, max (n 428 75) f) := if_neg q1
        rw [e]
        unfold e_rT
        rw [e_up3n (by decide), e_up3n (by decide), e_up3n (by decide), w_up_eq, hs]
  apply xr_m_tell
  by_cases q1 : n 428 75 < f
  · rw [if_pos q1]; exact key f (by omega)
  · rw [if_neg q1]; exact key _ (by omega)
theorem m_fl_emf {c v : Int} : e_mf n (m_fl n c v) := fun i j q1 q2 q3 => m_fl_o (by omega)
theorem m_fl_ne {c v : Int} (h : n 428 27 = 0) (hc : c ≠ 0) : m_fl n c v 428 27 ≠ 0 := by rw [(m_fl_v h).1]; exact hc
theorem r_entries : ∀ (k : Nat) (i p : Int) (n : w_M) (f M : Int), 0 ≤ i → i + k = M → 0 ≤ f → f + M ≤ 200 → e_K n W L p → L ≤ 100000 →
    (∀ es e, e_ens W k (f + i) p = some (es, e) → ∀ n', e_mf n n' → e_K n' W L e → e_rT n' = es.foldl e_rt (e_rT n) → xp_m_table_2 (d + 4) a 1 n' Q) → (e_ens W k (f + i) p = none → ∀ n', e_mf n n' → n' 428 27 ≠ 0 → Q (-1) n') → xp_m_table_240 (d + 4) a 1 f M i n Q := by
  intro k
  induction k with
  | zero =>
    intro i p n f M i0 hi f0 fM h hL H1 H0
    apply xr_m_table_240
    rw [if_neg (by omega)]
    exact H1 [] p rfl n e_mf.rf h rfl
  | succ k ih =>
    intro i p n f M i0 hi f0 fM h hL H1 H0
    obtain ⟨⟨a1, a2, a3, a4, a5⟩, h2, h3⟩ := id h
    apply xr_m_table_240
    rw [if_pos (by omega)]
    refine r_isEntry (d := d + 2) h (fun z => ?_) (fun z => ?_)
    · have hin := z.in a1.1
      have hdg := z.dig
      have v10 := e_dn10 hdg.1
      have v5 := e_dn5 hdg.2
      rw [if_neg (by decide)]
      refine sp_r_peek a1 a3 a4 (by omega) (by decide) (by decide) ?_
      have D1 : ∀ (R : Int → w_M → Prop), R (t_dn W p 10) n → xc_m_digits (d + 4) 0 10 n R := by
        intro R hR
        have := sp_m_digits (d := d + 2) (Q := R) h.1 (a := 0) (k := 10) (by decide) (by decide) (fun j hj => by rw [show p + ((0 : Nat) : Int) + j = p + j by omega]; exact hdg.1 j hj) (by rw [show p + ((0 : Nat) : Int) = p by omega]; exact hR)
        exact this
      have D2 : ∀ (R : Int → w_M → Prop), R (t_dn W (p + 11) 5) n → xc_m_digits (d + 4) 11 5 n R := fun R hR => sp_m_digits (d := d + 2) (Q := R) h.1 (a := 11) (k := 5) (by decide) (by decide) (fun j hj => hdg.2 j hj) hR
      have go : ∀ hh : Int, (hh = 0 ∨ hh = 1) → (if W (p + 17) = 110 then (1 : Int) else 0) = hh → xc_m_tell (d + 4) (w_32 (w_32 f + i)) hh (t_dn W p 10) (t_dn W (p + 11) 5) n (fun r6 m6 => xp_m_table_240 (d + 4) a 1 f M (w_32 (i + 1)) (w_up m6 428 21 (w_32 ((m6 428 21) + 20))) Q) := by
        intro hh h01 ehh
        rw [w_32_id (x := f) (by omega) (by omega), w_32_id (x := f + i) (by omega) (by omega)]
        refine r_tell (d := d + 3) (by omega) (by omega) (fun n1 f1 t1 => ?_)
        have k1 := h.far f1
        rw [k1.1.2.2.1, w_32_id (x := i + 1) (by omega) (by omega), w_32_id (x := p + 20) (by omega) (by omega)]
        have k2 := k1.mv (p' := p + 20) (by omega) (by omega)
        have c2 : e_mf n (w_up n1 428 21 (p + 20)) := fun x y w1 w2 w3 => by
          unfold w_up
          rw [if_neg (by omega)]
          exact f1 x y w2 (by omega)
        have e1 : f + i + 1 = f + (i + 1) := by omega
        refine ih (i + 1) (p + 20) _ f M (by omega) (by omega) f0 fM k2 hL (fun es e y n' c' j' t' => ?_) (fun y n' c' w => H0 ?_ n' (c2.tr c') w)
        · refine H1 (e_row W (f + i) p :: es) e ?_ n' (c2.tr c') j' ?_
          · rw [e_ens_s z, e1, y]
            rfl
          · rw [t']
            have e2 : e_rT (w_up n1 428 21 (p + 20)) = e_rT n1 := rfl
            rw [e2, t1]
            show _ = es.foldl e_rt (e_rt (e_rT n) (e_row W (f + i) p))
            have : e_row W (f + i) p = (f + i, hh, t_dn W p 10, t_dn W (p + 11) 5) := by
              unfold e_row
              rw [ehh]
            rw [this]
        · rw [e_ens_s z, e1, y]
          rfl
      by_cases q5 : W (p + 17) = 110
      · rw [if_pos q5]
        refine D1 _ ?_
        refine D2 _ ?_
        exact go 1 (Or.inr rfl) (if_pos q5)
      · rw [if_neg q5]
        refine D1 _ ?_
        refine D2 _ ?_
        exact go 0 (Or.inl rfl) (if_neg q5)
    · rw [if_pos rfl]
      refine sp_m_fail ?_
      exact H0 (e_ens_n z) _ m_fl_emf (m_fl_ne h3 (by decide))
theorem r_table_2 : ∀ (k : Nat) (p v : Int) (n : w_M), L - p < k → (v = 0 ∨ v = 1) → e_K n W L p → L ≤ 100000 →
    (∀ es e, e_tab W L k (decide (v = 1)) p = some (es, e) → ∀ n', e_mf n n' → e_K n' W L e → e_rT n' = es.foldl e_rt (e_rT n) → xp_m_table_327 (d + 4) a n' Q) → (e_tab W L k (decide (v = 1)) p = none → ∀ n', e_mf n n' → n' 428 27 ≠ 0 → Q (-1) n') → xp_m_table_2 (d + 4) a v n Q := by
  intro k
  induction k with
  | zero =>
    intro p v n hk hv h hL H1 H0
    have := h.1.2.2.2.2
    omega
  | succ k ih =>
    intro p v n hk hv h hL H1 H0
    obtain ⟨⟨a1, a2, a3, a4, a5⟩, h2, h3⟩ := id h
    have r1 := e_nb_r (W := W) a4 a5
    apply xr_m_table_2
    refine r_gd ?_
    rw [if_pos h3, if_neg (by decide)]
    refine sp_blanks (d := d + 2) a1 a2 a3 a4 a5 ?_
    have j1 : e_K (w_up n 428 21 (e_nb W L p)) W L (e_nb W L p) := h.mv (by omega) (by omega)
    have c1 : e_mf n (w_up n 428 21 (e_nb W L p)) := e_up21
    have T1 : e_rT (w_up n 428 21 (e_nb W L p)) = e_rT n := rfl
    obtain ⟨n1, hn1⟩ : ∃ n1, n1 = w_up n 428 21 (e_nb W L p) := ⟨_, rfl⟩
    have hn1' : w_up n 428 21 (k_b W (L - p).toNat p) = n1 := by rw [hn1]; rfl
    rw [hn1']
    rw [← hn1] at j1 c1 T1
    obtain ⟨b, hb⟩ : ∃ b, b = e_nb W L p := ⟨_, rfl⟩
    rw [← hb] at j1 r1
    obtain ⟨⟨x1, x2, x3, x4, x5⟩, x6, x7⟩ := id j1
    -- behind a first number, or none
    have none72 : ∀ n5 s0, e_K n5 W L b ∨ n5 428 27 = 0 → e_mf n n5 → e_tab W L (k + 1) (decide (v = 1)) p = none → xp_m_table_72 (d + 4) a 1 (-1) s0 n5 Q := by
      intro n5 s0 z c5 e
      apply xr_m_table_72
      rw [if_pos rfl]
      refine sp_m_fail ?_
      have : n5 428 27 = 0 := by
        rcases z with z | z
        · exact z.2.2
        · exact z
      exact H0 e _ (c5.tr m_fl_emf) (m_fl_ne this (by decide))
    -- a first number
    have body : t_rdg W L b → xc_m_blanks (d + 4) (w_up n1 428 21 (e_e W L b)) (fun r9 m9 => if (if 2147483647 < e_v W L b then -2 else e_v W L b) = (-1) then (xp_m_table_72 (d + 4) a 1 (if 2147483647 < e_v W L b then -2 else e_v W L b) (-1) m9 Q) else (xc_m_plainRow (d + 4) m9 (fun r10 m10 => xp_m_table_72 (d + 4) a 1 (if 2147483647 < e_v W L b then -2 else e_v W L b) r10 m10 Q))) := by
      intro z
      have v0 := e_v0 W L b
      have r2 := e_e_r (W := W) (L := L) (p := b) (by omega) (by omega)
      have zl : 0 < t_dl W (L - b).toNat b := z.1
      have bb : b < e_e W L b := by
        unfold e_e
        omega
      have j2 : e_K (w_up n1 428 21 (e_e W L b)) W L (e_e W L b) := j1.mv (by omega) (by omega)
      have c2 : e_mf n (w_up n1 428 21 (e_e W L b)) := c1.tr e_up21
      have T2 : e_rT (w_up n1 428 21 (e_e W L b)) = e_rT n := T1
      obtain ⟨n2, hn2⟩ : ∃ n2, n2 = w_up n1 428 21 (e_e W L b) := ⟨_, rfl⟩
      rw [← hn2] at j2 c2 T2 ⊢
      obtain ⟨⟨y1, y2, y3, y4, y5⟩, y6, y7⟩ := id j2
      have r3 := e_nb_r (W := W) (L := L) (p := e_e W L b) (by omega) (by omega)
      refine sp_blanks (d := d + 2) y1 y2 y3 y4 y5 ?_
      rw [if_neg (by split <;> omega)]
      have j3 : e_K (w_up n2 428 21 (e_nb W L (e_e W L b))) W L (e_nb W L (e_e W L b)) := j2.mv (by omega) (by omega)
      have c3 : e_mf n (w_up n2 428 21 (e_nb W L (e_e W L b))) := c2.tr e_up21
      have T3 : e_rT (w_up n2 428 21 (e_nb W L (e_e W L b))) = e_rT n := T2
      obtain ⟨n3, hn3⟩ : ∃ n3, n3 = w_up n2 428 21 (e_nb W L (e_e W L b)) := ⟨_, rfl⟩
      have hn3' : w_up n2 428 21 (k_b W (L - e_e W L b).toNat (e_e W L b)) = n3 := by rw [hn3]; rfl
      rw [hn3']
      rw [← hn3] at j3 c3 T3
      obtain ⟨b2', hb2⟩ : ∃ b2', b2' = e_nb W L (e_e W L b) := ⟨_, rfl⟩
      rw [← hb2] at j3 r3
      refine sp_plainRow (d := d) j3.1 (fun z2 => ?_) (fun z2 => ?_)
      · have v02 := e_v0 W L b2'
        have ev2 : t_dn W b2' (t_dl W (L - b2').toNat b2') = e_v W L b2' := rfl
        have ee2 : b2' + (t_dl W (L - b2').toNat b2' : Int) = e_e W L b2' := rfl
        rw [ev2, ee2]
        have r4 := e_e_r (W := W) (L := L) (p := b2') (by omega) (by omega)
        have es := e_tab_s (k := k) (any := decide (v = 1)) (W := W) (L := L) (p := p) (by rw [← hb]; exact z) (by rw [← hb, ← hb2]; exact z2)
        rw [← hb, ← hb2] at es
        have j4 : e_K (w_up n3 428 21 (e_e W L b2')) W L (e_e W L b2') := j3.mv (by omega) (by omega)
        have c4 : e_mf n (w_up n3 428 21 (e_e W L b2')) := c3.tr e_up21
        have T4 : e_rT (w_up n3 428 21 (e_e W L b2')) = e_rT n := T3
        obtain ⟨n4, hn4⟩ : ∃ n4, n4 = w_up n3 428 21 (e_e W L b2') := ⟨_, rfl⟩
        rw [← hn4] at j4 c4 T4 ⊢
        obtain ⟨⟨w1, w2, w3, w4, w5⟩, w6, w7⟩ := id j4
        have bad : ∀ c : Int, c ≠ 0 → e_tab W L (k + 1) (decide (v = 1)) p = none → xc_m_fail (d + 4) c a n4 (fun r1 m1 => Q (-1) m1) := by
          intro c hc e
          refine sp_m_fail ?_
          exact H0 e _ (c4.tr m_fl_emf) (m_fl_ne w7 hc)
        apply xr_m_table_72
        rw [if_neg (by split <;> omega), if_neg (by split <;> omega)]
        by_cases q1 : 200 < e_v W L b + e_v W L b2'
        · rw [if_pos q1] at es
          by_cases q2 : (if 2147483647 < e_v W L b then -2 else e_v W L b) = -2
          · rw [if_pos q2]; exact bad 5 (by decide) es
          · rw [if_neg q2]
            by_cases q3 : (if 2147483647 < e_v W L b2' then -2 else e_v W L b2') = -2
            · rw [if_pos q3]; exact bad 5 (by decide) es
            · rw [if_neg q3]
              have u1 : ¬ 2147483647 < e_v W L b := fun w => q2 (if_pos w)
              have u2 : ¬ 2147483647 < e_v W L b2' := fun w => q3 (if_pos w)
              rw [if_neg u1, if_neg u2, w_64_id (x := e_v W L b + e_v W L b2') (by omega) (by omega), if_pos q1]
              exact bad 5 (by decide) es
        · rw [if_neg q1] at es
          have u1 : ¬ 2147483647 < e_v W L b := by omega
          have u2 : ¬ 2147483647 < e_v W L b2' := by omega
          rw [if_neg u1, if_neg u2, if_neg (by omega), if_neg (by omega), w_64_id (x := e_v W L b + e_v W L b2') (by omega) (by omega), if_neg q1, w3]
          refine sp_r_peek w1 w3 w4 (by omega) (by decide) (by decide) ?_
          rw [Int.add_zero]
          obtain ⟨x, hx⟩ : ∃ x, x = e_e W L b2' + (if W (e_e W L b2') = 32 then 1 else 0) := ⟨_, rfl⟩
          have esx : e_s W (e_e W L b2') = e_el W x := by rw [hx]; rfl
          rw [esx] at es
          have xr : e_e W L b2' ≤ x ∧ x ≤ L := by
            rw [hx]
            by_cases q2 : W (e_e W L b2') = 32
            · rw [if_pos q2]
              have := w1.1.2.2 (e_e W L b2')
              omega
            · rw [if_neg q2]; omega
          have line : ∀ s2 : Int, e_e W L b2' + s2 = x → xp_m_table_158 (d + 4) a 1 (e_v W L b) (e_v W L b2') (e_e W L b2') s2 n4 Q := by
            intro s2 hs2
            apply xr_m_table_158
            rw [hs2, w_32_id (x := x) (by omega) (by omega)]
            have j5 : e_K (w_up n4 428 21 x) W L x := j4.mv (by omega) (by omega)
            have c5 : e_mf n (w_up n4 428 21 x) := c4.tr e_up21
            have T5 : e_rT (w_up n4 428 21 x) = e_rT n := T4
            obtain ⟨n5, hn5⟩ : ∃ n5, n5 = w_up n4 428 21 x := ⟨_, rfl⟩
            rw [← hn5] at j5 c5 T5 ⊢
            obtain ⟨⟨u1, u2, u3, u4, u5⟩, u6, u7⟩ := id j5
            -- at the entries
            have rows : ∀ y : Int, e_el W x = y → 0 ≤ y → xp_m_table_240 (d + 4) a 1 (e_v W L b) (e_v W L b2') 0 (w_up n5 428 21 y) Q := by
              intro y hy y0
              have lr := e_el_r (W := W) (p := x) w1.1 (by omega) (by omega)
              rw [hy] at lr es
              rw [if_neg (by omega)] at es
              have c6 : e_mf n (w_up n5 428 21 y) := c5.tr e_up21
              have T6 : e_rT (w_up n5 428 21 y) = e_rT n := T5
              refine r_entries (e_v W L b2').toNat 0 y _ (e_v W L b) (e_v W L b2') (by decide) (by omega) v0 (by omega) (j5.mv (by omega) (by omega)) hL (fun es1 e1 g n7 c7 j7 T7 => ?_) (fun g n7 c7 u => ?_)
              · rw [Int.add_zero] at g
                rw [g] at es
                have er := e_ens_r w1.1 _ _ _ _ _ lr.2 g
                have es : e_tab W L (k + 1) (decide (v = 1)) p = (e_tab W L k true e1).map (fun r2 => (es1 ++ r2.1, r2.2)) := es
                refine ih e1 1 n7 (by omega) (Or.inr rfl) j7 hL (fun es2 e2 y2 n8 c8 j8 T8 => ?_) (fun y2 n8 c8 u => ?_)
                · have y2 : e_tab W L k true e1 = some (es2, e2) := y2
                  rw [y2] at es
                  exact H1 (es1 ++ es2) e2 es n8 ((c6.tr c7).tr c8) j8 (by rw [T8, T7, T6, List.foldl_append])
                · have y2 : e_tab W L k true e1 = none := y2
                  rw [y2] at es
                  exact H0 es n8 ((c6.tr c7).tr c8) u
              · rw [Int.add_zero] at g
                rw [g] at es
                exact H0 es n7 (c6.tr c7) u
            have el : e_el W x = if W x = 13 then (if W (x + 1) = 10 then x + 2 else x + 1) else if W x = 10 then x + 1 else -1 := rfl
            have p0 : ∀ (R : Int → w_M → Prop), R (W x) n5 → xc_m_peek (d + 4) 0 n5 R := fun R hR => sp_r_peek u1 u3 u4 (by omega) (by decide) (by decide) (by rw [Int.add_zero]; exact hR)
            have e21 : n5 428 21 = x := u3
            have x1 : w_32 (x + 1) = x + 1 := w_32_id (by omega) (by omega)
            have x2 : w_32 (x + 2) = x + 2 := w_32_id (by omega) (by omega)
            have a186 : ¬ (W x = 13 ∧ W (x + 1) = 10) → xp_m_table_186 (d + 4) a 1 (e_v W L b) (e_v W L b2') n5 Q := by
              intro z3
              apply xr_m_table_186
              refine p0 _ ?_
              by_cases q3 : W x = 10
              · rw [if_neg (by omega), if_pos q3] at el
                rw [if_pos q3, e21, x1]
                exact rows _ el (by omega)
              · rw [if_neg q3]
                refine p0 _ ?_
                by_cases q4 : W x = 13
                · rw [if_pos q4, if_neg (fun w => z3 ⟨q4, w⟩)] at el
                  rw [if_pos q4, e21, x1]
                  exact rows _ el (by omega)
                · rw [if_neg q4, if_neg q3] at el
                  rw [if_neg q4]
                  refine sp_m_fail ?_
                  rw [el, if_pos (by decide)] at es
                  exact H0 es _ (c5.tr m_fl_emf) (m_fl_ne u7 (by decide))
            refine p0 _ ?_
            by_cases q3 : W x = 13
            · rw [if_pos q3]
              refine sp_r_peek u1 u3 u4 (by omega) (by decide) (by decide) ?_
              by_cases q4 : W (x + 1) = 10
              · rw [if_pos q3, if_pos q4] at el
                rw [if_pos q4, e21, x2]
                exact rows _ el (by omega)
              · rw [if_neg q4]
                exact a186 (fun w => q4 w.2)
            · rw [if_neg q3]
              exact a186 (fun w => q3 w.1)
          by_cases q2 : W (e_e W L b2') = 32
          · rw [if_pos q2] at hx ⊢
            exact line 1 hx.symm
          · rw [if_neg q2] at hx ⊢
            exact line 0 hx.symm
      · have es := e_tab_s1 (k := k) (any := decide (v = 1)) (W := W) (L := L) (p := p) (by rw [← hb]; exact z) (by rw [← hb, ← hb2]; exact z2)
        apply xr_m_table_72
        rw [if_neg (by split <;> omega), if_pos rfl]
        refine sp_m_fail ?_
        exact H0 es _ (c3.tr m_fl_emf) (m_fl_ne j3.2.2 (by decide))
    -- the first number is none
    have nofirst : ¬ t_rdg W L b → e_tab W L (k + 1) (decide (v = 1)) p = none → xc_m_blanks (d + 4) n1 (fun r9 m9 => if ((-1) : Int) = (-1) then (xp_m_table_72 (d + 4) a 1 (-1) (-1) m9 Q) else (xc_m_plainRow (d + 4) m9 (fun r10 m10 => xp_m_table_72 (d + 4) a 1 (-1) r10 m10 Q))) := by
      intro z e
      refine sp_blanks (d := d + 2) x1 x2 x3 x4 x5 ?_
      rw [if_pos rfl]
      exact none72 _ _ (Or.inr (by rw [w_up_nb (by decide)]; exact x7)) (c1.tr e_up21) e
    have ev : t_dn W b (t_dl W (L - b).toNat b) = e_v W L b := rfl
    have ee : b + (t_dl W (L - b).toNat b : Int) = e_e W L b := rfl
    rcases hv with hv | hv
    · rw [if_pos hv]
      have dt : decide (v = 1) = false := decide_eq_false (by omega)
      refine sp_plainRow (d := d) j1.1 (fun z => ?_) (fun z => ?_)
      · rw [ev, ee]; exact body z
      · refine nofirst z ?_
        rw [dt]
        exact e_tab_n1 (fun w => by cases w.1) (by rw [← hb]; exact z)
    · rw [if_neg (by omega)]
      have dt : decide (v = 1) = true := decide_eq_true hv
      refine sp_r_peek x1 x3 x4 (by omega) (by decide) (by decide) ?_
      rw [Int.add_zero]
      refine sp_r_isDigit ?_
      by_cases q2 : b_dig (W b)
      · rw [if_pos q2, if_neg (by decide)]
        refine sp_plainRow (d := d) j1.1 (fun z => ?_) (fun z => ?_)
        · rw [ev, ee]; exact body z
        · refine nofirst z ?_
          rw [dt]
          exact e_tab_n1 (fun w => w.2 (by rw [← hb]; exact q2)) (by rw [← hb]; exact z)
      · rw [if_neg q2, if_pos rfl, a3]
        have j2 : e_K (w_up n1 428 21 p) W L p := j1.mv a4 a5
        refine H1 [] p ?_ _ (c1.tr e_up21) j2 T1
        rw [dt]
        exact e_tab_0 (by rw [← hb]; exact q2)
end EW
