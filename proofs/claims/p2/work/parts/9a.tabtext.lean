/-! ===== sections: the text of tables ===== -/
def e_nb (W : Int → Int) (L p : Int) : Int := k_b W (L - p).toNat p
/-- the number of the digits at p, and where they end -/
def e_v (W : Int → Int) (L p : Int) : Int := t_dn W p (t_dl W (L - p).toNat p)
def e_e (W : Int → Int) (L p : Int) : Int := p + t_dl W (L - p).toNat p
/-- behind the end of a line -/
def e_el (W : Int → Int) (p : Int) : Int := if W p = 13 then (if W (p + 1) = 10 then p + 2 else p + 1) else if W p = 10 then p + 1 else -1
/-- an entry stands at p -/
def e_is (W : Int → Int) (p : Int) : Prop := (∀ i, 0 ≤ i → i < 16 → i ≠ 10 → b_dig (W (p + i))) ∧ W (p + 10) = 32 ∧ W (p + 16) = 32 ∧ (W (p + 17) = 110 ∨ W (p + 17) = 102) ∧ ((W (p + 18) = 32 ∧ (W (p + 19) = 13 ∨ W (p + 19) = 10)) ∨ (W (p + 18) = 13 ∧ W (p + 19) = 10))
/-- an entry: number, kind, place or holder, generation or index -/
abbrev e_E : Type := Int × Int × Int × Int
def e_row (W : Int → Int) (f p : Int) : e_E := (f, (if W (p + 17) = 110 then 1 else 0), t_dn W p 10, t_dn W (p + 11) 5)
noncomputable def e_ens (W : Int → Int) : Nat → Int → Int → Option (List e_E × Int)
  | 0, _, p => some ([], p)
  | k + 1, f, p => by classical exact (if e_is W p then (e_ens W k (f + 1) (p + 20)).map (fun r => (e_row W f p :: r.1, r.2)) else none)
def e_s (W : Int → Int) (q : Int) : Int := e_el W (q + (if W q = 32 then 1 else 0))
noncomputable def e_tab (W : Int → Int) (L : Int) : Nat → Bool → Int → Option (List e_E × Int)
  | 0, _, _ => none
  | k + 1, any, p => by
    classical exact (if any = true ∧ ¬ b_dig (W (e_nb W L p)) then some ([], p)
    else if ¬ t_rdg W L (e_nb W L p) then none
    else if ¬ t_rdg W L (e_nb W L (e_e W L (e_nb W L p))) then none
    else if 200 < e_v W L (e_nb W L p) + e_v W L (e_nb W L (e_e W L (e_nb W L p))) then none
    else if e_s W (e_e W L (e_nb W L (e_e W L (e_nb W L p)))) < 0 then none
    else (e_ens W (e_v W L (e_nb W L (e_e W L (e_nb W L p)))).toNat (e_v W L (e_nb W L p)) (e_s W (e_e W L (e_nb W L (e_e W L (e_nb W L p)))))).bind (fun r => (e_tab W L k true r.2).map (fun r2 => (r.1 ++ r2.1, r2.2))))
/-- what has been told: how, place, generation, the greatest -/
abbrev e_T : Type := (Int → Int) × (Int → Int) × (Int → Int) × Int
def e_cT (m : w_M) : e_T := (m 367, m 368, m 369, m 391 11)
def e_rT (n : w_M) : e_T := (n 464, n 465, n 466, n 428 75)
def e_set (f : Int → Int) (k v : Int) : Int → Int := fun j => if j = k then v else f j
/-- the class is told -/
def e_ct (T : e_T) (e : e_E) : e_T := if 0 < e.1 ∧ T.1 e.1 = 0 then (e_set T.1 e.1 (e.2.1 + 1), e_set T.2.1 e.1 (min e.2.2.1 2147483647), e_set T.2.2.1 e.1 (if 2147483647 < e.2.2.2 then -1 else e.2.2.2), max T.2.2.2 e.1) else (T.1, T.2.1, T.2.2.1, max T.2.2.2 e.1)
/-- the reference -/
def e_rt (T : e_T) (e : e_E) : e_T := if T.1 e.1 < 0 then (e_set T.1 e.1 e.2.1, e_set T.2.1 e.1 e.2.2.1, e_set T.2.2.1 e.1 e.2.2.2, max T.2.2.2 e.1) else (T.1, T.2.1, T.2.2.1, max T.2.2.2 e.1)
/-- what reading a table changes in the class -/
def e_cf (m m' : w_M) : Prop := ∀ i j : Int, ¬ (i = 376 ∧ (j = 4 ∨ j = 6 ∨ j = 7 ∨ (11 ≤ j ∧ j ≤ 16))) → ¬ (367 ≤ i ∧ i ≤ 369) → ¬ (i = 391 ∧ (j = 11 ∨ j = 12)) → m' i j = m i j
/-- in the reference -/
def e_mf (n n' : w_M) : Prop := ∀ i j : Int, ¬ (i = 428 ∧ ((21 ≤ j ∧ j ≤ 28) ∨ j = 75)) → ¬ (464 ≤ i ∧ i ≤ 466) → ¬ (i = 440 ∧ n 428 17 ≤ j ∧ j < 140000) → n' i j = n i j
section ET
variable {d : Nat} {m m' m2 n n' n2 : w_M} {Q : Int → w_M → Prop} {W : Int → Int} {L p p' q f a k0 : Int} {k : Nat} {e : e_E}
theorem e_cf.rf : e_cf m m := fun _ _ _ _ _ => rfl
theorem e_cf.tr (h : e_cf m m') (h2 : e_cf m' m2) : e_cf m m2 := fun a b q1 q2 q3 => (h2 a b q1 q2 q3).trans (h a b q1 q2 q3)
theorem e_mf.rf : e_mf n n := fun _ _ _ _ _ => rfl
theorem e_mf.tr (h : e_mf n n') (h2 : e_mf n' n2) : e_mf n n2 := fun a b q1 q2 q3 => (h2 a b q1 q2 (by rw [h 428 17 (by omega) (by omega) (by omega)]; exact q3)).trans (h a b q1 q2 q3)
theorem c_ch.ecf (h : c_ch m m' 376) : e_cf m m' := fun a b q1 q2 q3 => h a b (by omega)
theorem m_ag.emf (h : m_ag n n') : e_mf n n' := fun a b q1 q2 q3 => h a b (by omega) (by omega)
theorem e_ens_s (z : e_is W p) : e_ens W (k + 1) f p = (e_ens W k (f + 1) (p + 20)).map (fun r => (e_row W f p :: r.1, r.2)) := if_pos z
theorem e_ens_n (z : ¬ e_is W p) : e_ens W (k + 1) f p = none := if_neg z
theorem e_up3 {i j v : Int} : (w_up m i j v) i = e_set (m i) j v := by
  funext b
  unfold w_up e_set
  simp
theorem e_up3n {i j v c : Int} (h : c ≠ i) : (w_up m i j v) c = m c := by
  funext b
  exact w_up_ne h
/-- rows of digits of known lengths -/
theorem e_dl : ∀ (j k : Nat) (p : Int), (∀ i : Nat, i < j → b_dig (W (p + i))) → ¬ b_dig (W (p + j)) → j ≤ k → t_dl W k p = j := by
  intro j
  induction j with
  | zero =>
    intro k p _ h _
    have h : ¬ b_dig (W p) := by
      rw [show p + ((0 : Nat) : Int) = p by omega] at h
      exact h
    cases k with
    | zero => rfl
    | succ k => exact if_neg h
  | succ j ih =>
    intro k p h1 h2 h3
    cases k with
    | zero => omega
    | succ k =>
      have h0 : b_dig (W p) := by
        have := h1 0 (by omega)
        rw [show p + ((0 : Nat) : Int) = p by omega] at this
        exact this
      show (if b_dig (W p) then t_dl W k (p + 1) + 1 else 0) = j + 1
      have e1 : ∀ i : Nat, i < j → b_dig (W (p + 1 + i)) := by
        intro i hi
        have := h1 (i + 1) (by omega)
        rw [show p + ((i + 1 : Nat) : Int) = p + 1 + i by omega] at this
        exact this
      have e2 : ¬ b_dig (W (p + 1 + j)) := by
        rw [show p + 1 + (j : Int) = p + ((j + 1 : Nat) : Int) by omega]
        exact h2
      rw [if_pos h0, ih k (p + 1) e1 e2 (by omega)]
theorem e_dn5 (h : ∀ i : Nat, i < 5 → b_dig (W (p + i))) : 0 ≤ t_dn W p 5 ∧ t_dn W p 5 ≤ 99999 := by
  have h0 := h 0 (by decide)
  have h1 := h 1 (by decide)
  have h2 := h 2 (by decide)
  have h3 := h 3 (by decide)
  have h4 := h 4 (by decide)
  simp only [t_dn]
  omega
theorem e_dn10 (h : ∀ i : Nat, i < 10 → b_dig (W (p + i))) : 0 ≤ t_dn W p 10 ∧ t_dn W p 10 ≤ 9999999999 := by
  have h0 := h 0 (by decide)
  have h1 := h 1 (by decide)
  have h2 := h 2 (by decide)
  have h3 := h 3 (by decide)
  have h4 := h 4 (by decide)
  have h5 := h 5 (by decide)
  have h6 := h 6 (by decide)
  have h7 := h 7 (by decide)
  have h8 := h 8 (by decide)
  have h9 := h 9 (by decide)
  simp only [t_dn]
  omega
theorem e_is.dig (z : e_is W p) : (∀ i : Nat, i < 10 → b_dig (W (p + i))) ∧ (∀ i : Nat, i < 5 → b_dig (W (p + 11 + i))) := by
  refine ⟨fun i hi => z.1 i (by omega) (by omega) (by omega), fun i hi => ?_⟩
  have := z.1 (11 + i) (by omega) (by omega) (by omega)
  rw [show p + (11 + (i : Int)) = p + 11 + i by omega] at this
  exact this
/-- an entry is within the window -/
theorem e_is.in (z : e_is W p) (hok : v_ok W L) : 0 ≤ p ∧ p + 20 ≤ L := by
  have h1 := z.1 0 (by decide) (by decide) (by decide)
  rw [Int.add_zero] at h1
  obtain ⟨_, _, _, _, h2⟩ := z
  obtain ⟨_, _, v3⟩ := hok
  rcases Int.lt_or_le p 0 with y | y
  · have := v3 p (Or.inl y)
    omega
  · rcases Int.lt_or_le (p + 19) L with y2 | y2
    · omega
    · have := v3 (p + 19) (Or.inr y2)
      omega
-- the class
theorem sp_isEntry_114 {x y : Int} (h1 : ((x = 32 ∧ (y = 13 ∨ y = 10)) ∨ (x = 13 ∧ y = 10)) → Q 1 m) (h0 : ¬ ((x = 32 ∧ (y = 13 ∨ y = 10)) ∨ (x = 13 ∧ y = 10)) → Q 0 m) : xp_se_isEntry_114 (d + 1) x y m Q := by
  apply xr_se_isEntry_114
  by_cases q : x = 32
  · rw [if_pos q]
    by_cases q1 : y = 13
    · rw [if_pos q1]; exact h1 (by omega)
    · rw [if_neg q1]
      by_cases q2 : y = 10
      · rw [if_pos q2]; exact h1 (by omega)
      · rw [if_neg q2, if_neg (by omega)]
        exact h0 (by omega)
  · rw [if_neg q]
    by_cases q1 : x = 13
    · rw [if_pos q1]
      by_cases q2 : y = 10
      · rw [if_pos q2]; exact h1 (by omega)
      · rw [if_neg q2]; exact h0 (by omega)
    · rw [if_neg q1]; exact h0 (by omega)
theorem sp_isEntry (h : c_st m 376 W L p) (h1 : e_is W p → Q 1 m) (h0 : ¬ e_is W p → Q 0 m) : xc_se_isEntry (d + 3) (m 376 3 + p) m Q := by
  obtain ⟨hP, hok, b1, b2, b3, b4, b5, b6⟩ := h.bd
  apply xr_se_isEntry
  have key : ∀ (k : Nat) (i : Int), 0 ≤ i → i + k = 16 → (∀ j, 0 ≤ j → j < i → j ≠ 10 → b_dig (W (p + j))) → (10 < i → W (p + 10) = 32) → xp_se_isEntry_2 (d + 2) (m 376 3 + p) i m Q := by
    intro k
    induction k with
    | zero =>
      intro i i0 hi ha hb
      apply xr_se_isEntry_2
      rw [if_neg (by omega), w_32_id (x := m 376 3 + p + 17) (by omega) (by omega), w_32_id (x := m 376 3 + p + 18) (by omega) (by omega), w_32_id (x := m 376 3 + p + 19) (by omega) (by omega), w_32_id (x := m 376 3 + p + 16) (by omega) (by omega)]
      refine sp_ps_at h.1 (i := p + 17) (by omega) ?_
      refine sp_ps_at h.1 (i := p + 18) (by omega) ?_
      refine sp_ps_at h.1 (i := p + 19) (by omega) ?_
      refine sp_ps_at h.1 (i := p + 16) (by omega) ?_
      have hb := hb (by omega)
      by_cases q1 : W (p + 16) = 32
      · rw [if_pos q1]
        by_cases q2 : W (p + 17) = 110
        · rw [if_pos q2]
          exact sp_isEntry_114 (fun z => h1 ⟨fun j j0 j1 => ha j j0 (by omega), hb, q1, Or.inl q2, z⟩) (fun z => h0 (fun w => z w.2.2.2.2))
        · rw [if_neg q2]
          by_cases q3 : W (p + 17) = 102
          · rw [if_pos q3]
            exact sp_isEntry_114 (fun z => h1 ⟨fun j j0 j1 => ha j j0 (by omega), hb, q1, Or.inr q3, z⟩) (fun z => h0 (fun w => z w.2.2.2.2))
          · rw [if_neg q3]
            exact h0 (fun w => by have := w.2.2.2.1; omega)
      · rw [if_neg q1]
        exact h0 (fun w => q1 w.2.2.1)
    | succ k ih =>
      intro i i0 hi ha hb
      apply xr_se_isEntry_2
      rw [if_pos (by omega), w_32_id (x := m 376 3 + p + i) (by omega) (by omega), w_32_id (x := i + 1) (by omega) (by omega)]
      refine sp_ps_at h.1 (i := p + i) (by omega) ?_
      by_cases q : i = 10
      · rw [if_pos q]
        by_cases q1 : W (p + i) = 32
        · rw [if_pos q1]
          refine ih (i + 1) (by omega) (by omega) (fun j j0 j1 jn => ha j j0 (by omega) jn) (fun _ => ?_)
          rw [← q]; exact q1
        · rw [if_neg q1]
          exact h0 (fun w => q1 (by rw [q]; exact w.2.1))
      · rw [if_neg q]
        refine sp_c_isDigit ?_
        by_cases q1 : b_dig (W (p + i))
        · rw [if_pos q1, if_neg (by decide)]
          refine ih (i + 1) (by omega) (by omega) (fun j j0 j1 jn => ?_) (fun _ => hb (by omega))
          by_cases z : j = i
          · rw [z]; exact q1
          · exact ha j j0 (by omega) jn
        · rw [if_neg q1, if_pos rfl]
          exact h0 (fun w => q1 (w.1 i i0 (by omega) q))
  exact key 16 0 (by decide) (by decide) (fun j j0 j1 => by omega) (fun z => by omega)
/-- an entry is told to the class -/
theorem sp_tell {h w t : Int} (hf : f < 200) (hQ : ∀ m' : w_M, (∀ i j : Int, ¬ (367 ≤ i ∧ i ≤ 369) → m' i j = m i j) → (∀ M : Int, ∀ m2 : w_M, (∀ i j : Int, ¬ (i = 391 ∧ j = 11) → ¬ (i = 376 ∧ j = 4) → m2 i j = m' i j) → m2 391 11 = max (m' 391 11) f → e_cT m2 = e_ct (e_cT m) (f, h, w, t)) → Q 0 m') : xc_ta_tell (d + 1) f (h + 1) (min w 2147483647) (if 2147483647 < t then -1 else t) m Q := by
  apply xr_ta_tell
  have row : ∀ (m2 m' : w_M), (∀ i j : Int, ¬ (i = 391 ∧ j = 11) → ¬ (i = 376 ∧ j = 4) → m2 i j = m' i j) → m2 391 11 = max (m' 391 11) f → e_cT m2 = (m' 367, m' 368, m' 369, max (m' 391 11) f) := by
    intro m2 m' z z2
    unfold e_cT
    rw [z2]
    have e1 : m2 367 = m' 367 := funext (fun b => z 367 b (by omega) (by omega))
    have e2 : m2 368 = m' 368 := funext (fun b => z 368 b (by omega) (by omega))
    have e3 : m2 369 = m' 369 := funext (fun b => z 369 b (by omega) (by omega))
    rw [e1, e2, e3]
  by_cases q1 : 0 < f
  · rw [if_pos q1, if_pos hf]
    refine ⟨by omega, ?_⟩
    by_cases q2 : m 367 f = 0
    · rw [if_pos q2]
      refine ⟨by omega, by omega, by omega, ?_⟩
      refine hQ _ (fun i j z => ?_) (fun _ m2 z z2 => ?_)
      · unfold w_up
        rw [if_neg (by omega), if_neg (by omega), if_neg (by omega)]
      · rw [row m2 _ z z2]
        have c : 0 < f ∧ (e_cT m).1 f = 0 := ⟨q1, q2⟩
        have e : e_ct (e_cT m) (f, h, w, t) = (e_set (m 367) f (h + 1), e_set (m 368) f (min w 2147483647), e_set (m 369) f (if 2147483647 < t then -1 else t), max (m 391 11) f) := if_pos c
        rw [e, e_up3n (by decide), e_up3n (by decide), e_up3, e_up3n (by decide), e_up3, e_up3n (by decide), e_up3, e_up3n (by decide), e_up3n (by decide)]
        rw [e_up3n (by decide), e_up3n (by decide), e_up3n (by decide)]
    · rw [if_neg q2]
      refine hQ m (fun _ _ _ => rfl) (fun _ m2 z z2 => ?_)
      rw [row m2 _ z z2]
      exact (if_neg (fun y : 0 < f ∧ (e_cT m).1 f = 0 => q2 y.2)).symm
  · rw [if_neg q1]
    refine hQ m (fun _ _ _ => rfl) (fun _ m2 z z2 => ?_)
    rw [row m2 _ z z2]
    exact (if_neg (fun y : 0 < f ∧ (e_cT m).1 f = 0 => q1 y.1)).symm
end ET
