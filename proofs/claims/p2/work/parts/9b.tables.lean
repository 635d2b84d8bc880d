/-! ===== sections: tables, the class ===== -/
section EU
variable {d : Nat} {m m' m2 n n' n2 : w_M} {Q : Int → w_M → Prop} {W : Int → Int} {L p p' q f a k0 : Int} {k : Nat} {e : e_E}
/-- the class reads in the file -/
def e_J (m : w_M) (W : Int → Int) (L p : Int) : Prop := c_st m 376 W L p ∧ m 376 2 = 395
theorem e_J.far (h : e_J m W L p) (hf : ∀ i j : Int, ¬ (367 ≤ i ∧ i ≤ 369) → ¬ (i = 391 ∧ (j = 11 ∨ j = 12)) → m' i j = m i j) : e_J m' W L p :=
  ⟨h.1.far (fun b => hf _ _ (by omega) (by omega)) (fun b => by rw [h.2]; exact hf _ _ (by omega) (by omega)), by rw [hf _ _ (by omega) (by omega)]; exact h.2⟩
theorem e_J.mv (h : e_J m W L p) (h0 : 0 ≤ p') (h1 : p' ≤ L) : e_J (w_up m 376 4 (m 376 3 + p')) W L p' :=
  ⟨h.1.mv h0 h1, by rw [w_up_nb (by decide)]; exact h.2⟩
theorem e_J.ch (h : e_J m W L p) (hc : c_ch m m' 376) (hs : c_st m' 376 W L p') : e_J m' W L p' := ⟨hs, by rw [hc _ _ (by omega)]; exact h.2⟩
theorem e_bd (h : e_J m W L p) : v_ok W L ∧ 0 ≤ m 376 3 ∧ m 376 5 = m 376 3 + L ∧ m 376 3 + L ≤ 200000 ∧ m 376 4 = m 376 3 + p ∧ 0 ≤ p ∧ p ≤ L := by
  obtain ⟨hP, hok, b1, b2, b3, b4, b5, b6⟩ := h.1.bd
  exact ⟨hok, b1, b2, by omega, b4, b5, b6⟩
/-- a fault of the class: the first one stays -/
theorem sp_fail1 {P c : Int} (hP : w_isP P) (h : ∀ m' : w_M, (∀ i j : Int, ¬ (i = P ∧ (j = 6 ∨ j = 7)) → m' i j = m i j) → (c ≠ 0 → m' P 6 ≠ 0) → Q (-1) m') : xc_ps_fail (d + 1) P c a m Q := by
  apply xr_ps_fail hP
  by_cases q : m P 6 = 0
  · rw [if_pos q]
    refine h _ (fun i j q1 => by unfold w_up; rw [if_neg (by omega), if_neg (by omega)]) (fun z => ?_)
    rw [w_up_nb (by decide), w_up_eq]
    exact z
  · rw [if_neg q]
    exact h m (fun _ _ _ => rfl) (fun _ => q)
theorem sp_entries_2 : ∀ (k : Nat) (i p : Int) (m : w_M) (f M : Int), 0 ≤ i → i + k = M → 0 ≤ f → f + M ≤ 200 → e_J m W L p →
    (∀ es e, e_ens W k (f + i) p = some (es, e) → ∀ m', e_cf m m' → m' 376 6 = m 376 6 → e_J m' W L e → e_cT m' = es.foldl e_ct (e_cT m) → (es = [] → m' = m) → p ≤ e → Q 1 m') → (e_ens W k (f + i) p = none → ∀ m', e_cf m m' → Q 0 m') → xp_se_readEntries_2 (d + 4) f M i m Q := by
  intro k
  induction k with
  | zero =>
    intro i p m f M i0 hi f0 fM h H1 H0
    apply xr_se_readEntries_2
    rw [if_neg (by omega)]
    exact H1 [] p rfl m e_cf.rf rfl h rfl (fun _ => rfl) (Int.le_refl _)
  | succ k ih =>
    intro i p m f M i0 hi f0 fM h H1 H0
    obtain ⟨hok, b1, b2, b3, b4, b5, b6⟩ := e_bd h
    apply xr_se_readEntries_2
    rw [if_pos (by omega), b4]
    refine sp_isEntry (d := d + 1) h.1 (fun z => ?_) (fun z => ?_)
    · have hin := z.in hok
      have hdg := z.dig
      have v10 := e_dn10 hdg.1
      have v5 := e_dn5 hdg.2
      have dl1 : t_dl W (L - p).toNat p = 10 := by
        refine e_dl 10 _ p hdg.1 ?_ (by omega)
        have := z.2.1
        rw [show p + ((10 : Nat) : Int) = p + 10 by omega]
        omega
      have dl2 : t_dl W (L - (p + 11)).toNat (p + 11) = 5 := by
        refine e_dl 5 _ (p + 11) hdg.2 ?_ (by omega)
        have := z.2.2.1
        rw [show p + 11 + ((5 : Nat) : Int) = p + 16 by omega]
        omega
      rw [if_neg (by decide)]
      refine sp_digits (d := d + 2) h.1.1 b4 b5 b6 (fun w => by omega) (fun _ => ?_)
      rw [dl1]
      obtain ⟨m1, hm1⟩ : ∃ m1, m1 = w_up m 376 4 (m 376 3 + (p + ((10 : Nat) : Int))) := ⟨_, rfl⟩
      have j1 : e_J m1 W L (p + 10) := by rw [hm1]; exact h.mv (by omega) (by omega)
      have c1 : e_cf m m1 := by
        rw [hm1]
        intro i j q1 q2 q3
        unfold w_up
        rw [if_neg (by omega)]
      have e3 : m1 376 3 = m 376 3 := by rw [hm1, w_up_nb (by decide)]
      rw [← hm1, w_32_id (x := m 376 3 + p + 11) (by omega) (by omega), show m 376 3 + p + 11 = m1 376 3 + (p + 11) by omega]
      have j2 := j1.mv (p' := p + 11) (by omega) (by omega)
      obtain ⟨m2, hm2⟩ : ∃ m2, m2 = w_up m1 376 4 (m1 376 3 + (p + 11)) := ⟨_, rfl⟩
      rw [← hm2] at j2 ⊢
      have e32 : m2 376 3 = m 376 3 := by rw [hm2, w_up_nb (by decide)]; exact e3
      have c2 : e_cf m m2 := by
        refine c1.tr (fun i j q1 q2 q3 => ?_)
        rw [hm2]
        unfold w_up
        rw [if_neg (by omega)]
      obtain ⟨_, d1, d2, d3, d4, d5, d6⟩ := e_bd j2
      refine sp_digits (d := d + 2) j2.1.1 d4 d5 d6 (fun w => by omega) (fun _ => ?_)
      rw [dl2]
      have j3 := j2.mv (p' := p + 11 + ((5 : Nat) : Int)) (by omega) (by omega)
      obtain ⟨m3, hm3⟩ : ∃ m3, m3 = w_up m2 376 4 (m2 376 3 + (p + 11 + ((5 : Nat) : Int))) := ⟨_, rfl⟩
      rw [← hm3] at j3 ⊢
      have e33 : m3 376 3 = m 376 3 := by rw [hm3, w_up_nb (by decide)]; exact e32
      have c3 : e_cf m m3 := by
        refine c2.tr (fun i j q1 q2 q3 => ?_)
        rw [hm3]
        unfold w_up
        rw [if_neg (by omega)]
      have T3 : e_cT m3 = e_cT m := by rw [hm3, hm2, hm1]; rfl
      rw [w_32_id (x := m 376 3 + p + 17) (by omega) (by omega)]
      refine sp_ps_at j3.1.1 (i := p + 17) (by omega) ?_
      rw [show min (t_dn W p 10) 1099511627776 = t_dn W p 10 by omega, show min (t_dn W (p + 11) 5) 1099511627776 = t_dn W (p + 11) 5 by omega, w_32_id (x := min (t_dn W p 10) 2147483647) (by omega) (by omega), w_32_id (x := t_dn W (p + 11) 5) (by omega) (by omega)]
      have egen : t_dn W (p + 11) 5 = if 2147483647 < t_dn W (p + 11) 5 then -1 else t_dn W (p + 11) 5 := (if_neg (by omega)).symm
      -- what comes behind the telling
      have go : ∀ hh : Int, (if W (p + 17) = 110 then (1 : Int) else 0) = hh → xc_ta_tell (d + 4) (w_32 (f + i)) (hh + 1) (min (t_dn W p 10) 2147483647) (t_dn W (p + 11) 5) m3 (fun r1 m1 => xp_se_readEntries_2 (d + 4) f M (w_32 (i + 1)) (w_up (w_up m1 391 11 (max (m1 391 11) (w_32 (f + i)))) 376 4 (w_32 (m 376 3 + p + 20))) Q) := by
        intro hh ehh
        rw [w_32_id (x := f + i) (by omega) (by omega), egen]
        refine sp_tell (d := d + 3) (by omega) (fun m4 f4 t4 => ?_)
        rw [w_32_id (x := i + 1) (by omega) (by omega), w_32_id (x := m 376 3 + p + 20) (by omega) (by omega)]
        have j4 : e_J m4 W L (p + 11 + ((5 : Nat) : Int)) := j3.far (fun a b q1 q2 => f4 a b q1)
        have j5 : e_J (w_up m4 391 11 (max (m4 391 11) (f + i))) W L (p + 11 + ((5 : Nat) : Int)) := j4.far (fun a b q1 q2 => by unfold w_up; rw [if_neg (by omega)])
        have e35 : w_up m4 391 11 (max (m4 391 11) (f + i)) 376 3 = m 376 3 := by rw [w_up_ne (by decide), f4 _ _ (by omega)]; exact e33
        have j6 := j5.mv (p' := p + 20) (by omega) (by omega)
        rw [e35, show m 376 3 + (p + 20) = m 376 3 + p + 20 by omega] at j6
        have T6 := t4 0 (w_up (w_up m4 391 11 (max (m4 391 11) (f + i))) 376 4 (m 376 3 + p + 20)) (fun a b q1 q2 => by unfold w_up; rw [if_neg (by omega), if_neg (by omega)]) (by rw [w_up_ne (by decide), w_up_eq])
        have c6 : e_cf m (w_up (w_up m4 391 11 (max (m4 391 11) (f + i))) 376 4 (m 376 3 + p + 20)) := by
          refine c3.tr (fun a b q1 q2 q3 => ?_)
          unfold w_up
          rw [if_neg (by omega), if_neg (by omega)]
          exact f4 a b (by omega)
        have e1 : f + i + 1 = f + (i + 1) := by omega
        refine ih (i + 1) (p + 20) _ f M (by omega) (by omega) f0 fM j6 (fun es e y m' c' g6 j' t' _ le' => ?_) (fun y m' c' => H0 ?_ m' (c6.tr c'))
        · refine H1 (e_row W (f + i) p :: es) e ?_ m' (c6.tr c') (g6.trans (by rw [w_up_nb (by decide), w_up_ne (by decide), f4 _ _ (by omega), hm3, w_up_nb (by decide), hm2, w_up_nb (by decide), hm1, w_up_nb (by decide)])) j' ?_ (fun y => by cases y) (by omega)
          · rw [e_ens_s z, e1, y]
            rfl
          · rw [t', T6, T3]
            show _ = es.foldl e_ct (e_ct (e_cT m) (e_row W (f + i) p))
            have : e_row W (f + i) p = (f + i, hh, t_dn W p 10, t_dn W (p + 11) 5) := by
              unfold e_row
              rw [ehh]
            rw [this]
        · rw [e_ens_s z, e1, y]
          rfl
      by_cases q5 : W (p + 17) = 102
      · rw [if_pos q5]
        apply xr_se_readEntries_98
        rw [if_neg (by decide)]
        exact go 0 (if_neg (by omega))
      · rw [if_neg q5]
        have q6 : W (p + 17) = 110 := by
          have := z.2.2.2.1
          omega
        apply xr_se_readEntries_98
        rw [if_pos rfl]
        exact go 1 (if_pos q6)
    · rw [if_pos rfl]
      refine sp_fail1 (Or.inl rfl) (fun m' c' _ => H0 (e_ens_n z) m' (fun a b q1 q2 q3 => c' a b (by omega)))
end EU
