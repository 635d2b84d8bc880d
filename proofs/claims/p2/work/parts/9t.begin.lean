/-! ===== loading begins: the class; the frame in the reference ===== -/
/-- an empty table -/
def e_tc (m : w_M) : Prop := (∀ k, 1 ≤ k → k < 200 → m 367 k = 0) ∧ ∀ k, 0 ≤ k → k < 200 → m 370 k = -1 ∧ m 371 k = -1 ∧ m 372 k = 0 ∧ m 373 k = 0 ∧ m 374 k = 0
def e_tcf (m m' : w_M) : Prop := ∀ i j : Int, ¬ (366 ≤ i ∧ i ≤ 367) → ¬ (370 ≤ i ∧ i ≤ 374) → m' i j = m i j
def e_lb (m m' : w_M) : Prop := ∀ i j : Int, ¬ (i = 359 ∧ (j = 6 ∨ j = 7)) → ¬ (366 ≤ i ∧ i ≤ 367) → ¬ (370 ≤ i ∧ i ≤ 374) → i ≠ 376 → ¬ (i = 394 ∧ (j = 1 ∨ j = 9)) → i ≠ 395 → m' i j = m i j
/-- behind the frame, all well -/
def e_beg (m : w_M) (W : Int → Int) (L : Int) : Prop := (∃ p, e_J m W L p) ∧ m 376 3 = 0 ∧ m 376 10 = 1 ∧ m 376 8 = 41 ∧ m 376 9 = 8512 ∧ m 359 6 = 41 ∧ m 359 7 = 8512 ∧ e_tc m ∧ m 366 10 = 0 ∧ m 394 1 = L ∧ m 394 9 = 0
section SW
variable {d : Nat} {g g' : s_g} {m m' m0 m1 m2 m3 n n' n1 n2 : w_M} {Q : Int → w_M → Prop} {W : Int → Int} {L p a b v c T : Int} {k : Nat} {l : List Int}
theorem sp_ta_clear (hQ : ∀ m', e_tcf m m' → e_tc m' → m' 366 10 = 0 → Q 0 m') : xc_ta_clear (d + 1) m Q := by
  apply xr_ta_clear
  have key : ∀ (k : Nat) (i : Int) (m1 : w_M), i + k = 200 → 0 ≤ i → e_tcf m m1 → (∀ x, 0 ≤ x → x < i → m1 367 x = 0 ∧ m1 370 x = -1 ∧ m1 371 x = -1 ∧ m1 372 x = 0 ∧ m1 373 x = 0 ∧ m1 374 x = 0) → xp_ta_clear_2 d i m1 Q := by
    intro k
    induction k with
    | zero =>
      intro i m1 hi i0 hf hx
      apply xr_ta_clear_2
      rw [if_neg (by omega)]
      refine hQ _ (fun i j q1 q2 => ?_) ⟨fun k k0 k1 => ?_, fun k k0 k1 => ?_⟩ ?_
      · unfold w_up
        rw [if_neg (by omega), if_neg (by omega), if_neg (by omega), if_neg (by omega), if_neg (by omega)]
        exact hf i j q1 q2
      · rw [w_up_ne (by decide), w_up_ne (by decide), w_up_ne (by decide), w_up_ne (by decide), w_up_nb (by omega)]
        exact (hx k (by omega) (by omega)).1
      · have := hx k k0 (by omega)
        refine ⟨?_, ?_, ?_, ?_, ?_⟩
        · rw [w_up_ne (by decide), w_up_ne (by decide), w_up_ne (by decide), w_up_ne (by decide), w_up_ne (by decide)]; exact this.2.1
        · rw [w_up_ne (by decide), w_up_ne (by decide), w_up_ne (by decide), w_up_ne (by decide), w_up_ne (by decide)]; exact this.2.2.1
        · rw [w_up_ne (by decide), w_up_ne (by decide), w_up_ne (by decide), w_up_ne (by decide), w_up_ne (by decide)]; exact this.2.2.2.1
        · rw [w_up_ne (by decide), w_up_ne (by decide), w_up_ne (by decide), w_up_ne (by decide), w_up_ne (by decide)]; exact this.2.2.2.2.1
        · rw [w_up_ne (by decide), w_up_ne (by decide), w_up_ne (by decide), w_up_ne (by decide), w_up_ne (by decide)]; exact this.2.2.2.2.2
      · rw [w_up_nb (by decide), w_up_nb (by decide), w_up_nb (by decide), w_up_eq]
    | succ k ih =>
      intro i m1 hi i0 hf hx
      apply xr_ta_clear_2
      rw [if_pos (by omega), w_32_id (x := i + 1) (by omega) (by omega)]
      refine ⟨by omega, by omega, by omega, by omega, by omega, by omega, ?_⟩
      refine ih (i + 1) _ (by omega) (by omega) (fun a b q1 q2 => ?_) (fun x x0 x1 => ?_)
      · unfold w_up
        rw [if_neg (by omega), if_neg (by omega), if_neg (by omega), if_neg (by omega), if_neg (by omega), if_neg (by omega)]
        exact hf a b q1 q2
      · by_cases z : x = i
        · subst z
          refine ⟨?_, ?_, ?_, ?_, ?_, ?_⟩
          · rw [w_up_ne (by decide), w_up_ne (by decide), w_up_ne (by decide), w_up_ne (by decide), w_up_ne (by decide), w_up_eq]
          · rw [w_up_ne (by decide), w_up_ne (by decide), w_up_ne (by decide), w_up_ne (by decide), w_up_eq]
          · rw [w_up_ne (by decide), w_up_ne (by decide), w_up_ne (by decide), w_up_eq]
          · rw [w_up_ne (by decide), w_up_ne (by decide), w_up_eq]
          · rw [w_up_ne (by decide), w_up_eq]
          · rw [w_up_eq]
        · have nb : ∀ c : Int, (w_up (w_up (w_up (w_up (w_up (w_up m1 367 i 0) 370 i (-1)) 371 i (-1)) 372 i 0) 373 i 0) 374 i 0) c x = m1 c x := by
            intro c
            unfold w_up
            rw [if_neg (by omega), if_neg (by omega), if_neg (by omega), if_neg (by omega), if_neg (by omega), if_neg (by omega)]
          rw [nb, nb, nb, nb, nb, nb]
          exact hx x x0 (by omega)
  exact key 200 0 m (by decide) (by decide) (fun _ _ _ _ => rfl) (fun x x0 x1 => by omega)
theorem e_bg_y (h1 : e_at W 0 e_HEAD ∧ 48 ≤ W 7 ∧ W 7 ≤ 55) (h2 : ¬ e_ls W (L - 8).toNat < 0) : e_bg W L = e_end W L (e_ls W (L - 8).toNat + 9) := by
  refine if_neg (fun z => ?_)
  rcases z with z | z
  · exact z h1
  · exact h2 z
theorem sp_begin (hok : v_ok W L) (hL : L ≤ 8000) (hT : m 357 1 = T) (hTL : T = L) (hW : ∀ i, 0 ≤ i → i < L → m 358 i % 256 = W i) (h8 : m 359 8 = 41)
    (H1 : ∀ v, e_bg W L = some v → ∀ m', e_lb m m' → m' 376 6 = 0 → e_beg m' W L → Q v m') (H0 : e_bg W L = none → ∀ m', e_lb m m' → m' 376 6 ≠ 0 → Q (-1) m') : xc_lo_begin (d + 7) 358 T m Q := by
  have L0 := hok.1
  have l358 : w_ln 358 = 8000 := w_ln_eq s0_358
  have l395 : w_ln 395 = 8000 := w_ln_eq s0_395
  have mx : max 0 (min T (min (w_ln 358) 8000)) = L := by rw [l358]; omega
  apply xr_lo_begin
  rw [mx]
  refine ⟨⟨1, 8000, s0_358, by decide, by decide⟩, ⟨⟨8000, s0_358⟩, ⟨8000, s0_395⟩, by decide, w_EC (by decide), L0, by decide, by decide, by rw [l358]; omega, by rw [l395]; omega⟩, ?_⟩
  obtain ⟨m1, hm1⟩ : ∃ m1, m1 = w_cpy (w_up m 394 1 L) 358 0 395 0 L := ⟨_, rfl⟩
  rw [← hm1]
  have f1 : ∀ i j : Int, ¬ (i = 394 ∧ j = 1) → i ≠ 395 → m1 i j = m i j := fun i j q1 q2 => by
    rw [hm1]
    unfold w_cpy w_up
    rw [if_neg (by omega), if_neg q1]
  have c1 : ∀ i, 0 ≤ i → i < L → m1 395 i % 256 = W i := fun i i0 i1 => by
    rw [hm1]
    unfold w_cpy
    rw [if_pos ⟨rfl, i0, by omega⟩, w_up_ne (by decide), show i - 0 + 0 = i by omega]
    exact hW i i0 i1
  have e1 : m1 394 1 = L := by
    rw [hm1]
    unfold w_cpy
    rw [if_neg (by omega), w_up_eq]
  apply xr_st_clear
  rw [f1 359 8 (by omega) (by omega), h8]
  refine sp_ta_clear (d := d + 5) (fun m2 f2 t2 z2 => ?_)
  -- the parser
  apply xr_ps_restart (Or.inl rfl)
  refine ⟨Or.inr rfl, ?_⟩
  apply xr_ps_countAnew (Or.inl rfl)
  obtain ⟨m3, hm3⟩ : ∃ m3, m3 = w_up (w_up (w_up (w_up (w_up (w_up m2 394 9 0) 376 6 0) 376 7 (-1)) 376 10 1) 376 8 ((w_up (w_up (w_up (w_up m2 394 9 0) 376 6 0) 376 7 (-1)) 376 10 1) 359 6)) 376 9 ((w_up (w_up (w_up (w_up m2 394 9 0) 376 6 0) 376 7 (-1)) 376 10 1) 359 7) := ⟨_, rfl⟩
  rw [← hm3]
  have f3 : ∀ i j : Int, ¬ (i = 394 ∧ j = 9) → i ≠ 376 → m3 i j = m2 i j := fun i j q1 q2 => by
    rw [hm3]
    unfold w_up
    rw [if_neg (by omega), if_neg (by omega), if_neg (by omega), if_neg (by omega), if_neg (by omega), if_neg (by omega)]
  have m36 : m3 359 6 = 41 := by
    rw [f3 _ _ (by omega) (by omega), f2 _ _ (by omega) (by omega), w_up_nb (by decide), w_up_eq]
  have m37 : m3 359 7 = 8512 := by
    rw [f3 _ _ (by omega) (by omega), f2 _ _ (by omega) (by omega), w_up_eq]
  have e31 : m3 394 1 = L := by
    rw [f3 _ _ (by omega) (by omega), f2 _ _ (by omega) (by omega), w_up_ne (by decide), w_up_ne (by decide)]
    exact e1
  have p8 : m3 376 8 = 41 := by
    rw [hm3, w_up_nb (by decide), w_up_eq, w_up_ne (by decide), w_up_ne (by decide), w_up_ne (by decide), w_up_ne (by decide), ← f3 359 6 (by omega) (by omega)]
    exact m36
  have p9 : m3 376 9 = 8512 := by
    rw [hm3, w_up_eq, w_up_ne (by decide), w_up_ne (by decide), w_up_ne (by decide), w_up_ne (by decide), ← f3 359 7 (by omega) (by omega)]
    exact m37
  have p10 : m3 376 10 = 1 := by rw [hm3, w_up_nb (by decide), w_up_nb (by decide), w_up_eq]
  have p6 : m3 376 6 = 0 := by rw [hm3, w_up_nb (by decide), w_up_nb (by decide), w_up_nb (by decide), w_up_nb (by decide), w_up_eq]
  have w9 : m3 394 9 = 0 := by rw [hm3, w_up_ne (by decide), w_up_ne (by decide), w_up_ne (by decide), w_up_ne (by decide), w_up_ne (by decide), w_up_eq]
  apply xr_ps_open (Or.inl rfl)
  refine ⟨⟨1, 8000, s0_395, by decide, by decide⟩, ?_⟩
  rw [e31, l395, show max 0 (min L 8000) = L by omega, show max 0 (min 0 L) = 0 by omega]
  obtain ⟨m4, hm4⟩ : ∃ m4, m4 = w_up (w_up (w_up (w_up (w_up m3 376 2 395) 376 5 L) 376 3 0) 376 4 0) 376 11 (-1) := ⟨_, rfl⟩
  rw [← hm4]
  have f4 : ∀ i j : Int, ¬ (i = 376 ∧ (j = 2 ∨ j = 3 ∨ j = 4 ∨ j = 5 ∨ j = 11)) → m4 i j = m3 i j := fun i j q => by
    rw [hm4]
    unfold w_up
    rw [if_neg (by omega), if_neg (by omega), if_neg (by omega), if_neg (by omega), if_neg (by omega)]
  have g2 : m4 376 2 = 395 := by rw [hm4, w_up_nb (by decide), w_up_nb (by decide), w_up_nb (by decide), w_up_nb (by decide), w_up_eq]
  have g5 : m4 376 5 = L := by rw [hm4, w_up_nb (by decide), w_up_nb (by decide), w_up_nb (by decide), w_up_eq]
  have g3 : m4 376 3 = 0 := by rw [hm4, w_up_nb (by decide), w_up_nb (by decide), w_up_eq]
  have g4 : m4 376 4 = 0 := by rw [hm4, w_up_nb (by decide), w_up_eq]
  have g11 : m4 376 11 = -1 := by rw [hm4, w_up_eq]
  have J4 : e_J m4 W L 0 := by
    refine ⟨⟨⟨hok, Or.inl rfl, by rw [g2]; decide, by rw [g2]; exact ⟨8000, s0_395⟩, by rw [g2]; exact ⟨1, 8000, s0_395, by decide, by decide⟩, by rw [g3]; decide, by rw [g5, g3]; omega, by rw [g5, g2, l395]; omega, by rw [g2, l395]; decide, fun i i0 i1 => ?_⟩, by rw [g4, g3]; rfl, Int.le_refl _, L0, fun q q0 q1 q2 => ?_⟩, g2⟩
    · rw [g2, g3, Int.zero_add, f4 _ _ (by omega), f3 _ _ (by omega) (by omega), f2 _ _ (by omega) (by omega), w_up_ne (by decide), w_up_ne (by decide)]
      exact c1 i i0 i1
    · rw [g11, g3] at q2
      omega
  have lb4 : e_lb m m4 := fun i j q1 q2 q3 q4 q5 q6 => by
    rw [f4 _ _ (by omega), f3 _ _ (by omega) q4, f2 _ _ q2 q3]
    unfold w_up
    rw [if_neg (by omega), if_neg (by omega)]
    exact f1 i j (by omega) q6
  have lbp : ∀ {m5}, e_pf m4 m5 → e_lb m m5 := fun f i j q1 q2 q3 q4 q5 q6 => by rw [f i j (by omega)]; exact lb4 i j q1 q2 q3 q4 q5 q6
  have beg : ∀ {m5 p5}, e_pf m4 m5 → e_J m5 W L p5 → e_beg m5 W L := by
    intro m5 p5 f J5
    refine ⟨⟨p5, J5⟩, by rw [f _ _ (by omega)]; exact g3, by rw [f _ _ (by omega), f4 _ _ (by omega)]; exact p10, by rw [f _ _ (by omega), f4 _ _ (by omega)]; exact p8, by rw [f _ _ (by omega), f4 _ _ (by omega)]; exact p9, by rw [f _ _ (by omega), f4 _ _ (by omega)]; exact m36, by rw [f _ _ (by omega), f4 _ _ (by omega)]; exact m37, ?_, ?_, by rw [f _ _ (by omega), f4 _ _ (by omega)]; exact e31, by rw [f _ _ (by omega), f4 _ _ (by omega)]; exact w9⟩
    · refine ⟨fun k k0 k1 => ?_, fun k k0 k1 => ?_⟩
      · rw [f _ _ (by omega), f4 _ _ (by omega), f3 _ _ (by omega) (by omega)]; exact t2.1 k k0 k1
      · rw [f _ _ (by omega), f4 _ _ (by omega), f3 _ _ (by omega) (by omega), f _ _ (by omega), f4 _ _ (by omega), f3 _ _ (by omega) (by omega), f _ _ (by omega), f4 _ _ (by omega), f3 _ _ (by omega) (by omega), f _ _ (by omega), f4 _ _ (by omega), f3 _ _ (by omega) (by omega), f _ _ (by omega), f4 _ _ (by omega), f3 _ _ (by omega) (by omega)]
        exact t2.2 k k0 k1
    · rw [f _ _ (by omega), f4 _ _ (by omega), f3 _ _ (by omega) (by omega)]; exact z2
  refine sp_passes (d := d + 1) t_chead J4 (fun y1 J5 => ?_) (fun y1 m5 f5 g5' => ?_)
  · rw [if_neg (by decide)]
    have l7 : (e_HEAD.length : Int) = 7 := rfl
    have in7 := e_at_in hok y1 (by decide) (by decide) L0
    rw [l7, g3, Int.zero_add, Int.zero_add] at J5 ⊢
    rw [l7] at in7
    obtain ⟨m5, hm5⟩ : ∃ m5, m5 = w_up m4 376 4 7 := ⟨_, rfl⟩
    have f5 : e_pf m4 m5 := by rw [hm5]; exact e_pf.up
    have e54 : m5 376 4 = 7 := by rw [hm5, w_up_eq]
    have g53 : m5 376 3 = 0 := by rw [f5 _ _ (by omega)]; exact g3
    have g56 : m5 376 6 = 0 := by rw [hm5, w_up_nb (by decide), f4 _ _ (by omega)]; exact p6
    rw [← hm5] at J5 ⊢
    rw [e54]
    refine sp_ps_at J5.1.1 (i := 7) (by rw [g53]; rfl) ?_
    have bad : ∀ c v : Int, c ≠ 0 → ¬ (48 ≤ W 7 ∧ W 7 ≤ 55) ∨ e_ls W (L - 8).toNat < 0 → xc_ps_fail (d + 6) 376 c v m5 (fun r7 m7 => Q r7 m7) := by
      intro c v hc z
      refine sp_fail1 (Or.inl rfl) (fun m' f y => H0 (if_pos ?_) m' (lbp (f5.tr (fun i j q => f i j (by omega)))) (y hc))
      rcases z with z | z
      · exact Or.inl (fun w => z w.2)
      · exact Or.inr z
    by_cases q1 : W 7 < 48
    · rw [if_pos q1]; exact bad 1 _ (by decide) (Or.inl (by omega))
    · rw [if_neg q1]
      by_cases q2 : 55 < W 7
      · rw [if_pos q2]; exact bad 1 _ (by decide) (Or.inl (by omega))
      · rw [if_neg q2]
        refine sp_lastStart (d := d) J5 g53 (by rw [f5 _ _ (by omega), f4 _ _ (by omega)]; exact e31) ?_
        by_cases q3 : e_ls W (L - 8).toNat < 0
        · rw [if_pos q3]; exact bad 2 _ (by decide) (Or.inr q3)
        · rw [if_neg q3]
          refine sp_length (d := d + 4) t_csx ?_
          have l9 : (e_SX.length : Int) = 9 := rfl
          have lr : 0 ≤ e_ls W (L - 8).toNat ∧ e_ls W (L - 8).toNat < ((L - 8).toNat : Int) := by
            rcases e_ls_r W (L - 8).toNat with z | z
            · omega
            · exact ⟨z.1, z.2.1⟩
          rw [l9, w_32_id (x := e_ls W (L - 8).toNat + 9) (by omega) (by omega)]
          have J6 := J5.mv (p' := e_ls W (L - 8).toNat + 9) (by omega) (by omega)
          rw [g53, Int.zero_add] at J6
          have f6 : e_pf m4 (w_up m5 376 4 (e_ls W (L - 8).toNat + 9)) := f5.tr e_pf.up
          have ebg := e_bg_y (L := L) ⟨y1, by omega, by omega⟩ q3
          refine sp_readStart (d := d) J6 (by rw [w_up_nb (by decide)]; exact g53) (by rw [w_up_ne (by decide), f5 _ _ (by omega), f4 _ _ (by omega)]; exact e31) (fun v hv m7 p7 f7 g7 J7 => ?_) (fun hv m7 f7 g7 => ?_)
          · exact H1 v (ebg.trans hv) m7 (lbp (f6.tr f7)) (by rw [g7, w_up_nb (by decide)]; exact g56) (beg (f6.tr f7) J7)
          · exact H0 (ebg.trans hv) m7 (lbp (f6.tr f7)) g7
  · rw [if_pos rfl]
    exact H0 (if_pos (Or.inl (fun w => y1 w.1))) m5 (lbp f5) (g5' (by decide))
-- the reference
theorem r_end_203 (hF : e_F n W L) (hv : 0 ≤ v) : ∀ (k : Nat) (p : Int), p + k = L → 0 ≤ p → (e_nb W L p = L → Q v n) → (e_nb W L p ≠ L → Q (-1) (m_fl n 2 (e_nb W L p))) → xp_m_ending_203 (d + 1) p v n Q := by
  intro k
  induction k with
  | zero =>
    intro p hp p0 H1 H0
    have e : p = L := by omega
    have nb : e_nb W L p = L := by
      unfold e_nb
      rw [show (L - p).toNat = 0 by omega]
      exact e
    apply xr_m_ending_203
    refine r_byteHere (d := d) hF p0 ?_
    have := hF.1.2.2 p (Or.inr (by omega))
    refine sp_r_isBlank (d := d) ?_
    rw [this, if_neg (show ¬ b_w (-1) by decide), if_pos rfl, hF.2.2.1, if_neg (by omega)]
    exact H1 nb
  | succ k ih =>
    intro p hp p0 H1 H0
    have L8 := hF.2.1
    have nbs : e_nb W L p = if b_w (W p) then e_nb W L (p + 1) else p := by
      unfold e_nb
      rw [show (L - p).toNat = (L - (p + 1)).toNat + 1 by omega]
      rfl
    apply xr_m_ending_203
    refine r_byteHere (d := d) hF p0 ?_
    refine sp_r_isBlank (d := d) ?_
    by_cases q : b_w (W p)
    · rw [if_pos q] at nbs ⊢
      rw [if_neg (by decide), w_32_id (x := p + 1) (by omega) (by omega)]
      rw [nbs] at H1 H0
      exact ih (p + 1) (by omega) (by omega) H1 H0
    · rw [if_neg q] at nbs ⊢
      rw [if_pos rfl, hF.2.2.1, if_pos (by omega)]
      refine sp_m_fail ?_
      rw [nbs] at H0
      exact H0 (by omega)
theorem e_nb_s (hp : p < L) : e_nb W L p = if b_w (W p) then e_nb W L (p + 1) else p := by
  unfold e_nb
  rw [show (L - p).toNat = (L - (p + 1)).toNat + 1 by omega]
  rfl
theorem e_nb_e (hp : L ≤ p) : e_nb W L p = p := by
  unfold e_nb
  rw [show (L - p).toNat = 0 by omega]
  rfl
theorem r_end_163 (hF : e_F n W L) (hv : 0 ≤ v) (hp : 0 ≤ p ∧ p ≤ L) (H1 : e_at W p e_EOF → e_nb W L (p + 5) = L → Q v n) (H0 : ¬ (e_at W p e_EOF ∧ e_nb W L (p + 5) = L) → ∀ x, Q (-1) (m_fl n 2 x)) : xp_m_ending_163 (d + 5) p v 0 n Q := by
  have L8 := hF.2.1
  have l5 : e_EOF.length = 5 := rfl
  have key : ∀ (k i : Nat), i + k = 5 → (∀ j : Nat, j < i → W (p + j) = e_EOF.getD j 0) → p + i ≤ L → xp_m_ending_163 (d + 5) (p + i) v i n Q := by
    intro k
    induction k with
    | zero =>
      intro i hi hx hL
      have e : i = 5 := by omega
      rw [e] at hx hL ⊢
      have hat : e_at W p e_EOF := fun j hj => hx j (by omega)
      apply xr_m_ending_163
      rw [if_neg (by decide), show p + ((5 : Nat) : Int) = p + 5 by omega]
      exact r_end_203 (d := d + 4) hF hv (L - (p + 5)).toNat (p + 5) (by omega) (by omega) (fun z => H1 hat z) (fun z => H0 (fun w => z w.2) _)
    | succ k ih =>
      intro i hi hx hL
      apply xr_m_ending_163
      rw [if_pos (by omega)]
      refine r_byteHere (d := d + 4) hF (by omega) ?_
      refine sp_charAt (d := d + 1) t_meof (i := i) (by omega) ?_
      by_cases q : W (p + i) = e_EOF.getD i 0
      · have hin := hF.1.2.2 (p + i)
        have hc : 0 ≤ e_EOF.getD i 0 := by
          have c : i = 0 ∨ i = 1 ∨ i = 2 ∨ i = 3 ∨ i = 4 := by omega
          rcases c with rfl | rfl | rfl | rfl | rfl <;> decide
        rw [if_pos q, w_32_id (x := p + i + 1) (by omega) (by omega), w_32_id (x := (i : Int) + 1) (by omega) (by omega), show p + (i : Int) + 1 = p + ((i + 1 : Nat) : Int) by omega, show (i : Int) + 1 = ((i + 1 : Nat) : Int) by omega]
        refine ih (i + 1) (by omega) (fun j hj => ?_) (by omega)
        by_cases z : j = i
        · rw [z]; exact q
        · exact hx j (by omega)
      · rw [if_neg q]
        refine sp_m_fail ?_
        exact H0 (fun w => q (w.1 i (by omega))) _
  have := key 5 0 (by decide) (fun j hj => absurd hj (Nat.not_lt_zero j)) (by omega)
  rw [show p + ((0 : Nat) : Int) = p by omega] at this
  exact this
theorem r_end_122 (hF : e_F n W L) (hv : 0 ≤ v) {p0 : Int} (hp0 : 0 ≤ p0) (H1 : e_nb W L p0 ≠ p0 → e_at W (e_nb W L p0) e_EOF → e_nb W L (e_nb W L p0 + 5) = L → Q v n) (H0 : ¬ (e_nb W L p0 ≠ p0 ∧ e_at W (e_nb W L p0) e_EOF ∧ e_nb W L (e_nb W L p0 + 5) = L) → ∀ x, Q (-1) (m_fl n 2 x)) : ∀ (k : Nat) (p : Int), p + k = L → p0 ≤ p → e_nb W L p = e_nb W L p0 → xp_m_ending_122 (d + 6) p v p0 n Q := by
  intro k
  have L8 := hF.2.1
  induction k with
  | zero =>
    intro p hp hpp e
    apply xr_m_ending_122
    refine r_byteHere (d := d + 5) hF (by omega) ?_
    refine sp_r_isBlank (d := d + 5) ?_
    rw [hF.1.2.2 p (Or.inr (by omega)), if_neg (show ¬ b_w (-1) by decide), if_pos rfl]
    rw [e_nb_e (by omega)] at e
    by_cases q : p = p0
    · rw [if_pos q]
      refine sp_m_fail ?_
      exact H0 (fun w => w.1 (by omega)) _
    · rw [if_neg q]
      refine r_end_163 (d := d + 1) hF hv ⟨by omega, by omega⟩ (fun z1 z2 => H1 (by omega) (by rw [← e]; exact z1) (by rw [← e]; exact z2)) (fun z x => H0 (fun w => z ⟨by rw [e]; exact w.2.1, by rw [e]; exact w.2.2⟩) x)
  | succ k ih =>
    intro p hp hpp e
    apply xr_m_ending_122
    refine r_byteHere (d := d + 5) hF (by omega) ?_
    refine sp_r_isBlank (d := d + 5) ?_
    have s := e_nb_s (W := W) (L := L) (p := p) (by omega)
    by_cases q : b_w (W p)
    · rw [if_pos q] at s ⊢
      rw [if_neg (by decide), w_32_id (x := p + 1) (by omega) (by omega)]
      exact ih (p + 1) (by omega) (by omega) (s.symm.trans e)
    · rw [if_neg q] at s ⊢
      rw [if_pos rfl]
      rw [s] at e
      by_cases q2 : p = p0
      · rw [if_pos q2]
        refine sp_m_fail ?_
        exact H0 (fun w => w.1 (by omega)) _
      · rw [if_neg q2]
        refine r_end_163 (d := d + 1) hF hv ⟨by omega, by omega⟩ (fun z1 z2 => H1 (by omega) (by rw [← e]; exact z1) (by rw [← e]; exact z2)) (fun z x => H0 (fun w => z ⟨by rw [e]; exact w.2.1, by rw [e]; exact w.2.2⟩) x)
theorem r_end_50 (hF : e_F n W L) {p0 : Int} (hp0 : 0 ≤ p0 ∧ p0 ≤ L) (hd : b_dig (W p0))
    (H1 : ¬ 2147483647 < e_v W L p0 → e_nb W L (e_e W L p0) ≠ e_e W L p0 → e_at W (e_nb W L (e_e W L p0)) e_EOF → e_nb W L (e_nb W L (e_e W L p0) + 5) = L → Q (e_v W L p0) n) (H0 : ¬ (¬ 2147483647 < e_v W L p0 ∧ e_nb W L (e_e W L p0) ≠ e_e W L p0 ∧ e_at W (e_nb W L (e_e W L p0)) e_EOF ∧ e_nb W L (e_nb W L (e_e W L p0) + 5) = L) → ∀ x, Q (-1) (m_fl n 2 x)) :
    ∀ (k j : Nat) (v : Int), j + k = t_dl W (L - p0).toNat p0 → t_hi (t_dn W p0 j) v → xp_m_ending_50 (d + 7) (p0 + j) p0 v n Q := by
  intro k
  have L8 := hF.2.1
  have dle := t_dl_le W (L - p0).toNat p0
  have dend := t_dl_end W (L - p0).toNat p0
  have ddig := t_dl_dig W (L - p0).toNat p0
  induction k with
  | zero =>
    intro j v hj hv
    have ej : j = t_dl W (L - p0).toNat p0 := by omega
    have nd : ¬ b_dig (W (p0 + j)) := by
      by_cases z : t_dl W (L - p0).toNat p0 < (L - p0).toNat
      · rw [ej]; exact dend z
      · rw [hF.1.2.2 (p0 + j) (Or.inr (by omega))]
        decide
    have ev : t_dn W p0 j = e_v W L p0 := by rw [ej]; rfl
    have ee : p0 + (j : Int) = e_e W L p0 := by rw [ej]; rfl
    rw [ev] at hv
    obtain ⟨v0, v1, v2⟩ := hv
    apply xr_m_ending_50
    refine r_byteHere (d := d + 6) hF (by omega) ?_
    refine sp_r_isDigit (d := d + 6) ?_
    rw [if_neg nd, if_pos rfl]
    by_cases q : 2147483647 < v
    · rw [if_pos q]
      refine sp_m_fail ?_
      exact H0 (fun w => by omega) _
    · rw [if_neg q]
      have ve : v = e_v W L p0 := by omega
      rw [ee, ve]
      have v00 := e_v0 W L p0
      exact r_end_122 (d := d + 1) hF v00 (by rw [← ee]; omega) (fun z1 z2 z3 => H1 (by omega) z1 z2 z3) (fun z x => H0 (fun w => z ⟨w.2.1, w.2.2.1, w.2.2.2⟩) x) (L - e_e W L p0).toNat (e_e W L p0) (by rw [← ee]; omega) (Int.le_refl _) rfl
  | succ k ih =>
    intro j v hj hv
    have dg := ddig j (by omega)
    obtain ⟨v0, v1, v2⟩ := hv
    have s : t_dn W p0 (j + 1) = t_dn W p0 j * 10 + (W (p0 + j) - 48) := rfl
    have t0 := e_dn0 (W := W) (p := p0) j (fun i hi => ddig i (by omega))
    apply xr_m_ending_50
    refine r_byteHere (d := d + 6) hF (by omega) ?_
    refine sp_r_isDigit (d := d + 6) ?_
    rw [if_pos dg, if_neg (by decide), w_32_id (x := p0 + j + 1) (by omega) (by omega), show p0 + (j : Int) + 1 = p0 + ((j + 1 : Nat) : Int) by omega]
    by_cases q : 4294967296 < v
    · rw [if_pos q]
      refine ih (j + 1) v (by omega) ⟨v0, v1, Or.inr ⟨q, by omega⟩⟩
    · rw [if_neg q]
      refine r_byteHere (d := d + 6) hF (by omega) ?_
      rw [w_64_id (x := 10 * v) (by omega) (by omega), w_64_id (x := 10 * v + W (p0 + j)) (by omega) (by omega), w_64_id (x := 10 * v + W (p0 + j) - 48) (by omega) (by omega)]
      exact ih (j + 1) _ (by omega) ⟨by omega, by omega, by omega⟩
theorem r_ending (hF : e_F n W L) (hp : 0 ≤ p ∧ p ≤ L) (H1 : ∀ v, e_end W L p = some v → Q v n) (H0 : e_end W L p = none → ∀ x, Q (-1) (m_fl n 2 x)) : xc_m_ending (d + 8) p n Q := by
  have L8 := hF.2.1
  apply xr_m_ending
  have fin : ∀ q : Int, e_nb W L p = q → p ≤ q → q ≤ L → ¬ b_w (W q) → xp_m_ending_2 (d + 7) p q n Q := by
    intro q eq q0 q1 nb
    apply xr_m_ending_2
    refine r_byteHere (d := d + 6) hF (by omega) ?_
    refine sp_r_isBlank (d := d + 6) ?_
    rw [if_neg nb, if_pos rfl]
    by_cases z : q = p
    · rw [if_pos z]
      refine sp_m_fail ?_
      exact H0 (if_pos (Or.inl (by omega))) _
    · rw [if_neg z]
      refine r_byteHere (d := d + 6) hF (by omega) ?_
      refine sp_r_isDigit (d := d + 6) ?_
      by_cases dg : b_dig (W q)
      · rw [if_pos dg, if_neg (by decide)]
        have := r_end_50 (d := d) (Q := Q) hF (p0 := q) ⟨by omega, q1⟩ dg (fun z1 z2 z3 z4 => H1 _ (by
          have := e_end_y (W := W) (L := L) (p := p) (by omega) (by rw [eq]; exact dg) (by rw [eq]; exact z1) (by rw [eq]; exact z2) (by rw [eq]; exact z3) (by rw [eq]; exact z4)
          rw [eq] at this
          exact this)) (fun w x => H0 (if_pos (by
          rw [eq]
          by_cases a1 : 2147483647 < e_v W L q
          · exact Or.inr (Or.inr (Or.inl a1))
          · by_cases a2 : e_nb W L (e_e W L q) = e_e W L q
            · exact Or.inr (Or.inr (Or.inr (Or.inl a2)))
            · by_cases a3 : e_at W (e_nb W L (e_e W L q)) e_EOF
              · exact Or.inr (Or.inr (Or.inr (Or.inr (Or.inr (fun a4 => w ⟨a1, a2, a3, a4⟩)))))
              · exact Or.inr (Or.inr (Or.inr (Or.inr (Or.inl a3)))))) x) (t_dl W (L - q).toNat q) 0 0 (by omega) ⟨by decide, by decide, Or.inl rfl⟩
        rw [show q + ((0 : Nat) : Int) = q by omega] at this
        exact this
      · rw [if_neg dg, if_pos rfl]
        refine sp_m_fail ?_
        exact H0 (if_pos (Or.inr (Or.inl (by rw [eq]; exact dg)))) _
  have key : ∀ (k : Nat) (q : Int), q + k = L → p ≤ q → e_nb W L q = e_nb W L p → xp_m_ending_2 (d + 7) p q n Q := by
    intro k
    induction k with
    | zero =>
      intro q hq hpq e
      refine fin q ?_ hpq (by omega) ?_
      · rw [← e]; exact e_nb_e (by omega)
      · rw [hF.1.2.2 q (Or.inr (by omega))]; decide
    | succ k ih =>
      intro q hq hpq e
      have s := e_nb_s (W := W) (L := L) (p := q) (by omega)
      by_cases z : b_w (W q)
      · rw [if_pos z] at s
        apply xr_m_ending_2
        refine r_byteHere (d := d + 6) hF (by omega) ?_
        refine sp_r_isBlank (d := d + 6) ?_
        rw [if_pos z, if_neg (by decide), w_32_id (x := q + 1) (by omega) (by omega)]
        exact ih (q + 1) (by omega) (by omega) (s.symm.trans e)
      · rw [if_neg z] at s
        exact fin q (by rw [← e]; exact s) hpq (by omega) z
  exact key (L - p).toNat p (by omega) (Int.le_refl _) rfl
end SW
