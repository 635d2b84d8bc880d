/-! ===== a file's frame: where the newest section begins, both sides ===== -/
def e_HEAD : List Int := [37, 80, 68, 70, 45, 49, 46]
def e_SX : List Int := [115, 116, 97, 114, 116, 120, 114, 101, 102]
def e_EOF : List Int := [37, 37, 69, 79, 70]
theorem t_chead : t_s 0 e_HEAD := ⟨by decide, by decide, by decide, _, rfl⟩
theorem t_mhead : t_s 276 e_HEAD := ⟨by decide, by decide, by decide, _, rfl⟩
theorem t_csx : t_s 2 e_SX := ⟨by decide, by decide, by decide, _, rfl⟩
theorem t_msx : t_s 278 e_SX := ⟨by decide, by decide, by decide, _, rfl⟩
theorem t_ceof : t_s 10 e_EOF := ⟨by decide, by decide, by decide, _, rfl⟩
theorem t_meof : t_s 194 e_EOF := ⟨by decide, by decide, by decide, _, rfl⟩
/-- these bytes stand at p -/
def e_at (W : Int → Int) (p : Int) (l : List Int) : Prop := ∀ i : Nat, i < l.length → W (p + i) = l.getD i 0
/-- the last startxref below k -/
noncomputable def e_ls (W : Int → Int) : Nat → Int
  | 0 => -1
  | k + 1 => by classical exact (if e_at W k e_SX then (k : Int) else e_ls W k)
noncomputable def e_end (W : Int → Int) (L p : Int) : Option Int := by
  classical exact (if e_nb W L p = p ∨ ¬ b_dig (W (e_nb W L p)) ∨ 2147483647 < e_v W L (e_nb W L p) ∨ e_nb W L (e_e W L (e_nb W L p)) = e_e W L (e_nb W L p) ∨ ¬ e_at W (e_nb W L (e_e W L (e_nb W L p))) e_EOF ∨ e_nb W L (e_nb W L (e_e W L (e_nb W L p)) + 5) ≠ L then none else some (e_v W L (e_nb W L p)))
noncomputable def e_bg (W : Int → Int) (L : Int) : Option Int := by
  classical exact (if ¬ (e_at W 0 e_HEAD ∧ 48 ≤ W 7 ∧ W 7 ≤ 55) ∨ e_ls W (L - 8).toNat < 0 then none else e_end W L (e_ls W (L - 8).toNat + 9))
section SV
variable {d : Nat} {g g' : s_g} {m m' m0 m1 m2 m3 n n' n1 n2 : w_M} {Q : Int → w_M → Prop} {W : Int → Int} {L p a b v c : Int} {k : Nat} {l : List Int}
theorem e_at_in (hok : v_ok W L) (h : e_at W p l) (hl : ∀ x ∈ l, 0 ≤ x) (h0 : 0 ≤ p) (h1 : p ≤ L) : p + l.length ≤ L := by
  cases hk : l.length with
  | zero => omega
  | succ k =>
    have w := h k (by omega)
    have hc : l.getD k 0 ∈ l := by
      rw [List.getD_eq_getElem?_getD, List.getElem?_eq_getElem (by omega)]
      exact List.getElem_mem _
    have := hl _ hc
    have := hok.2.2 (p + k)
    omega
/-- only the place and the fault -/
def e_pf (m m' : w_M) : Prop := ∀ i j : Int, ¬ (i = 376 ∧ (j = 4 ∨ j = 6 ∨ j = 7)) → m' i j = m i j
theorem e_pf.rf : e_pf m m := fun _ _ _ => rfl
theorem e_pf.tr (h : e_pf m m') (h2 : e_pf m' m2) : e_pf m m2 := fun i j q => (h2 i j q).trans (h i j q)
theorem e_pf.up {v : Int} : e_pf m (w_up m 376 4 v) := fun i j q => by unfold w_up; rw [if_neg (by omega)]
theorem sp_passes (hs : t_s a l) (h : e_J m W L p) (H1 : e_at W p l → e_J (w_up m 376 4 (m 376 3 + (p + l.length))) W L (p + l.length) → Q 1 (w_up m 376 4 (m 376 3 + (p + l.length)))) (H0 : ¬ e_at W p l → ∀ m', e_pf m m' → (c ≠ 0 → m' 376 6 ≠ 0) → Q 0 m') : xc_lo_passes (d + 5) a c m Q := by
  obtain ⟨hok, b1, b2, b3, b4, b5, b6⟩ := e_bd h
  have ok := hs.ok
  apply xr_lo_passes
  have key : ∀ (k i : Nat), i + k = l.length → (∀ j : Nat, j < i → W (p + j) = l.getD j 0) → p + i ≤ L → xp_lo_passes_2 (d + 4) a c i (w_up m 376 4 (m 376 3 + (p + i))) Q := by
    intro k
    induction k with
    | zero =>
      intro i hi hx hL
      apply xr_lo_passes_2
      refine ⟨hs.isS, ?_⟩
      refine sp_length (d := d + 2) hs ?_
      rw [if_neg (by omega)]
      have e : i = l.length := by omega
      rw [e] at hL hx ⊢
      exact H1 hx (h.mv (by omega) hL)
    | succ k ih =>
      intro i hi hx hL
      have hJ := h.mv (p' := p + i) (by omega) hL
      apply xr_lo_passes_2
      refine ⟨hs.isS, ?_⟩
      refine sp_length (d := d + 2) hs ?_
      rw [if_pos (by omega), w_up_eq]
      refine sp_ps_at hJ.1.1 (i := p + i) (by rw [w_up_nb (by decide)]) ?_
      refine ⟨hs.isS, ?_⟩
      refine sp_charAt hs (i := i) (by omega) ?_
      rw [w_up_eq]
      have hc : l.getD i 0 ∈ l := by
        rw [List.getD_eq_getElem?_getD, List.getElem?_eq_getElem (by omega)]
        exact List.getElem_mem _
      have hc2 := ok.2 _ hc
      have i1 : (i : Int) + 1 = ((i + 1 : Nat) : Int) := by omega
      by_cases q : W (p + i) = l.getD i 0
      · have hin := hok.2.2 (p + i)
        rw [if_pos q, w_32_id (x := (i : Int) + 1) (by omega) (by omega), w_32_id (x := m 376 3 + (p + i) + 1) (by omega) (by omega), w_up_up, i1, show m 376 3 + (p + (i : Int)) + 1 = m 376 3 + (p + ((i + 1 : Nat) : Int)) by omega]
        refine ih (i + 1) (by omega) (fun j hj => ?_) (by omega)
        by_cases z : j = i
        · rw [z]; exact q
        · exact hx j (by omega)
      · rw [if_neg q]
        exact sp_fail1 (Or.inl rfl) (fun m' f z => H0 (fun w => q (w i (by omega))) m' (e_pf.up.tr (fun i j q => f i j (by omega))) z)
  have := key l.length 0 (by omega) (fun j hj => absurd hj (Nat.not_lt_zero j)) (by omega)
  rw [show p + ((0 : Nat) : Int) = p by omega, w_up_id b4] at this
  exact this
theorem sp_passesBlanks (h : e_J m W L p) (H1 : e_nb W L p ≠ p → e_J (w_up m 376 4 (m 376 3 + e_nb W L p)) W L (e_nb W L p) → Q 1 (w_up m 376 4 (m 376 3 + e_nb W L p))) (H0 : e_nb W L p = p → ∀ m', e_pf m m' → m' 376 6 ≠ 0 → Q 0 m') : xc_lo_passesBlanks (d + 3) m Q := by
  obtain ⟨hok, b1, b2, b3, b4, b5, b6⟩ := e_bd h
  apply xr_lo_passesBlanks
  refine sp_blanks1 (d := d) h (fun j => ?_)
  rw [w_up_eq]
  by_cases q : e_nb W L p = p
  · rw [if_pos (by omega)]
    exact sp_fail1 (Or.inl rfl) (fun m' f z => H0 q m' (e_pf.up.tr (fun i j q => f i j (by omega))) (z (by decide)))
  · rw [if_neg (by omega)]
    exact H1 q j
theorem e_ls_y (h : e_at W k e_SX) : e_ls W (k + 1) = k := if_pos h
theorem e_ls_n (h : ¬ e_at W k e_SX) : e_ls W (k + 1) = e_ls W k := if_neg h
theorem e_ls_r (W : Int → Int) : ∀ k : Nat, e_ls W k = -1 ∨ (0 ≤ e_ls W k ∧ e_ls W k < k ∧ e_at W (e_ls W k) e_SX) := by
  intro k
  induction k with
  | zero => exact Or.inl rfl
  | succ k ih =>
    by_cases q : e_at W k e_SX
    · rw [e_ls_y q]
      exact Or.inr ⟨by omega, by omega, q⟩
    · rw [e_ls_n q]
      rcases ih with z | z
      · exact Or.inl z
      · exact Or.inr ⟨z.1, by omega, z.2.2⟩
theorem sp_lastStart (h : e_J m W L p) (h3 : m 376 3 = 0) (h1 : m 394 1 = L) (hQ : Q (e_ls W (L - 8).toNat) m) : xc_lo_lastStart (d + 6) m Q := by
  obtain ⟨hok, b1, b2, b3, b4, b5, b6⟩ := e_bd h
  apply xr_lo_lastStart
  refine sp_length (d := d + 3) t_csx ?_
  have l9 : (e_SX.length : Int) = 9 := rfl
  rw [h1, l9, w_32_id (x := L - 9) (by omega) (by omega)]
  -- the search within
  have inner : ∀ (x : Int), 0 ≤ x → x + 9 ≤ L → (e_at W x e_SX → Q x m) → (¬ e_at W x e_SX → xp_lo_lastStart_11 (d + 5) (x - 1) m Q) → ∀ (k i : Nat), i + k = 9 → (∀ j : Nat, j < i → W (x + j) = e_SX.getD j 0) → xp_lo_lastStart_17 (d + 5) x i m Q := by
    intro x x0 x1 Y N k
    induction k with
    | zero =>
      intro i hi hx
      apply xr_lo_lastStart_17
      refine sp_length (d := d + 3) t_csx ?_
      rw [l9, if_neg (by omega)]
      refine sp_length (d := d + 3) t_csx ?_
      rw [l9, if_pos (by omega)]
      exact Y (fun j hj => hx j (by have : e_SX.length = 9 := rfl; omega))
    | succ k ih =>
      intro i hi hx
      apply xr_lo_lastStart_17
      refine sp_length (d := d + 3) t_csx ?_
      rw [l9, if_pos (by omega), w_32_id (x := x + i) (by omega) (by omega)]
      refine sp_ps_at h.1.1 (i := x + i) (by omega) ?_
      refine sp_charAt (d := d + 1) t_csx (i := i) (by have : e_SX.length = 9 := rfl; omega) ?_
      by_cases q : W (x + i) = e_SX.getD i 0
      · rw [if_pos q, w_32_id (x := (i : Int) + 1) (by omega) (by omega), show (i : Int) + 1 = ((i + 1 : Nat) : Int) by omega]
        refine ih (i + 1) (by omega) (fun j hj => ?_)
        by_cases z : j = i
        · rw [z]; exact q
        · exact hx j (by omega)
      · rw [if_neg q]
        refine sp_length (d := d + 3) t_csx ?_
        rw [l9, if_neg (by omega), w_32_id (x := x + -1) (by omega) (by omega)]
        exact N (fun w => q (w i (by have : e_SX.length = 9 := rfl; omega)))
  have outer : ∀ (k : Nat), (k : Int) + 8 ≤ L → Q (e_ls W k) m → xp_lo_lastStart_11 (d + 5) ((k : Int) - 1) m Q := by
    intro k
    induction k with
    | zero =>
      intro _ hq
      apply xr_lo_lastStart_11
      rw [if_pos (by decide)]
      exact hq
    | succ k ih =>
      intro hk hq
      apply xr_lo_lastStart_11
      rw [if_neg (by omega), show ((k + 1 : Nat) : Int) - 1 = (k : Int) by omega]
      refine inner k (by omega) (by omega) (fun z => ?_) (fun z => ?_) 9 0 (by decide) (fun j hj => absurd hj (Nat.not_lt_zero j))
      · rw [e_ls_y z] at hq; exact hq
      · rw [e_ls_n z] at hq
        exact ih (by omega) hq
  by_cases q : 8 ≤ L
  · have := outer (L - 8).toNat (by omega) hQ
    rw [show (((L - 8).toNat : Nat) : Int) - 1 = L - 9 by omega] at this
    exact this
  · apply xr_lo_lastStart_11
    rw [if_pos (by omega)]
    rw [show (L - 8).toNat = 0 by omega] at hQ
    exact hQ
theorem e_end_y (h1 : e_nb W L p ≠ p) (h2 : b_dig (W (e_nb W L p))) (h3 : ¬ 2147483647 < e_v W L (e_nb W L p)) (h4 : e_nb W L (e_e W L (e_nb W L p)) ≠ e_e W L (e_nb W L p)) (h5 : e_at W (e_nb W L (e_e W L (e_nb W L p))) e_EOF) (h6 : e_nb W L (e_nb W L (e_e W L (e_nb W L p)) + 5) = L) : e_end W L p = some (e_v W L (e_nb W L p)) := by
  refine if_neg (fun z => ?_)
  rcases z with z | z | z | z | z | z
  · exact h1 z
  · exact z h2
  · exact h3 z
  · exact h4 z
  · exact z h5
  · exact z h6
theorem e_dig_dl (hb : 0 ≤ p ∧ p ≤ L) (hok : v_ok W L) (h : b_dig (W p)) : 0 < t_dl W (L - p).toNat p := by
  have hin := hok.2.2 p
  rw [show (L - p).toNat = (L - p).toNat - 1 + 1 by omega]
  show 0 < (if b_dig (W p) then t_dl W ((L - p).toNat - 1) (p + 1) + 1 else 0)
  rw [if_pos h]
  omega
theorem sp_readStart (h : e_J m W L p) (h3 : m 376 3 = 0) (h1 : m 394 1 = L) (H1 : ∀ v, e_end W L p = some v → ∀ m' p', e_pf m m' → m' 376 6 = m 376 6 → e_J m' W L p' → Q v m') (H0 : e_end W L p = none → ∀ m', e_pf m m' → m' 376 6 ≠ 0 → Q (-1) m') : xc_lo_readStart (d + 6) m Q := by
  obtain ⟨hok, b1, b2, b3, b4, b5, b6⟩ := e_bd h
  apply xr_lo_readStart
  obtain ⟨p1, hp1⟩ : ∃ p1, p1 = e_nb W L p := ⟨_, rfl⟩
  have r1 := e_nb_r (W := W) b5 b6
  refine sp_passesBlanks (d := d + 2) h (fun z1 j1 => ?_) (fun z1 m1 f1 g1 => ?_)
  · rw [if_neg (by decide)]
    obtain ⟨m1, hm1⟩ : ∃ m1, m1 = w_up m 376 4 (m 376 3 + e_nb W L p) := ⟨_, rfl⟩
    have f1 : e_pf m m1 := by rw [hm1]; exact e_pf.up
    have g1 : m1 376 6 = m 376 6 := by rw [hm1, w_up_nb (by decide)]
    have g13 : m1 376 3 = 0 := by rw [hm1, w_up_nb (by decide)]; exact h3
    rw [← hm1] at j1 ⊢
    obtain ⟨_, _, _, _, c4, c5, c6⟩ := e_bd j1
    refine sp_digits (d := d + 3) j1.1.1 c4 c5 c6 (fun z => ?_) (fun z => ?_)
    · -- no digits
      rw [if_pos (by decide)]
      refine sp_fail1 (Or.inl rfl) (fun m' f y => H0 (if_pos (Or.inr (Or.inl (fun w => ?_)))) m' (f1.tr (fun i j q => f i j (by omega))) (y (by decide)))
      have := e_dig_dl ⟨by omega, by omega⟩ hok w
      omega
    · have dg : b_dig (W (e_nb W L p)) := by
        have := t_dl_dig W (L - e_nb W L p).toNat (e_nb W L p) 0 z
        rw [show e_nb W L p + ((0 : Nat) : Int) = e_nb W L p by omega] at this
        exact this
      have v0 := e_v0 W L (e_nb W L p)
      have ev : t_dn W (e_nb W L p) (t_dl W (L - e_nb W L p).toNat (e_nb W L p)) = e_v W L (e_nb W L p) := rfl
      have ee : e_nb W L p + (t_dl W (L - e_nb W L p).toNat (e_nb W L p) : Int) = e_e W L (e_nb W L p) := rfl
      have r2 := e_e_r (W := W) (L := L) (p := e_nb W L p) (by omega) (by omega)
      rw [ev, ee, if_neg (by omega)]
      by_cases q1 : 2147483647 < e_v W L (e_nb W L p)
      · rw [if_pos (by omega)]
        exact sp_fail1 (Or.inl rfl) (fun m' f y => H0 (if_pos (Or.inr (Or.inr (Or.inl q1)))) m' (f1.tr (e_pf.up.tr (fun i j q => f i j (by omega)))) (y (by decide)))
      · rw [if_neg (by omega)]
        have j2 := j1.mv (p' := e_e W L (e_nb W L p)) (by omega) (by omega)
        obtain ⟨m2, hm2⟩ : ∃ m2, m2 = w_up m1 376 4 (m1 376 3 + e_e W L (e_nb W L p)) := ⟨_, rfl⟩
        have f2 : e_pf m m2 := by rw [hm2]; exact f1.tr e_pf.up
        have g2 : m2 376 6 = m 376 6 := by rw [hm2, w_up_nb (by decide)]; exact g1
        rw [← hm2] at j2 ⊢
        have r3 := e_nb_r (W := W) (L := L) (p := e_e W L (e_nb W L p)) (by omega) (by omega)
        refine sp_passesBlanks (d := d + 2) j2 (fun z2 j3 => ?_) (fun z2 m3 f3 g3 => ?_)
        · rw [if_neg (by decide)]
          obtain ⟨m3, hm3⟩ : ∃ m3, m3 = w_up m2 376 4 (m2 376 3 + e_nb W L (e_e W L (e_nb W L p))) := ⟨_, rfl⟩
          have f3 : e_pf m m3 := by rw [hm3]; exact f2.tr e_pf.up
          have g3 : m3 376 6 = m 376 6 := by rw [hm3, w_up_nb (by decide)]; exact g2
          rw [← hm3] at j3 ⊢
          refine sp_passes (d := d) t_ceof j3 (fun z3 j4 => ?_) (fun z3 m4 f4 g4 => ?_)
          · rw [if_neg (by decide)]
            have l5 : (e_EOF.length : Int) = 5 := rfl
            have in5 := e_at_in hok z3 (by decide) (by omega) (by omega)
            rw [l5] at j4 in5 ⊢
            obtain ⟨m4, hm4⟩ : ∃ m4, m4 = w_up m3 376 4 (m3 376 3 + (e_nb W L (e_e W L (e_nb W L p)) + 5)) := ⟨_, rfl⟩
            have f4 : e_pf m m4 := by rw [hm4]; exact f3.tr e_pf.up
            have g4 : m4 376 6 = m 376 6 := by rw [hm4, w_up_nb (by decide)]; exact g3
            rw [← hm4] at j4 ⊢
            refine sp_blanks1 (d := d + 3) j4 (fun j5 => ?_)
            have f5 : e_pf m (w_up m4 376 4 (m4 376 3 + e_nb W L (e_nb W L (e_e W L (e_nb W L p)) + 5))) := f4.tr e_pf.up
            have m43 : m4 376 3 = 0 := by rw [f4 _ _ (by omega)]; exact h3
            rw [w_up_eq, w_up_ne (by decide), f4 394 1 (by omega), h1, m43, Int.zero_add]
            rw [m43, Int.zero_add] at f5 j5
            by_cases q2 : e_nb W L (e_nb W L (e_e W L (e_nb W L p)) + 5) = L
            · rw [if_pos q2, show min (e_v W L (e_nb W L p)) 1099511627776 = e_v W L (e_nb W L p) by omega, w_32_id (x := e_v W L (e_nb W L p)) (by omega) (by omega)]
              exact H1 _ (e_end_y z1 dg q1 z2 z3 q2) _ _ f5 (by rw [w_up_nb (by decide)]; exact g4) j5
            · rw [if_neg q2]
              exact sp_fail1 (Or.inl rfl) (fun m' f y => H0 (if_pos (Or.inr (Or.inr (Or.inr (Or.inr (Or.inr q2)))))) m' (f5.tr (fun i j q => f i j (by omega))) (y (by decide)))
          · rw [if_pos rfl]
            exact H0 (if_pos (Or.inr (Or.inr (Or.inr (Or.inr (Or.inl z3)))))) m4 (f3.tr f4) (g4 (by decide))
        · rw [if_pos rfl]
          exact H0 (if_pos (Or.inr (Or.inr (Or.inr (Or.inl z2))))) m3 (f2.tr f3) g3
  · rw [if_pos rfl]
    exact H0 (if_pos (Or.inl z1)) m1 f1 g1
end SV
