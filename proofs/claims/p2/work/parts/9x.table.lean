/-! ===== the loader: the class's table; an object's head ===== -/
/-- in use -/
def l_us (m : w_M) (k : Int) : Prop := 0 < k ∧ k < m 366 11 ∧ m 367 k ≠ 1
/-- only the parser's stand, row and fault -/
def l_op (m m' : w_M) : Prop := ∀ i j : Int, ¬ (i = 376 ∧ ((2 ≤ j ∧ j ≤ 7) ∨ (11 ≤ j ∧ j ≤ 16))) → m' i j = m i j
/-- the file's bytes in the class -/
def l_fb (m : w_M) (W : Int → Int) (L : Int) : Prop := v_ok W L ∧ L ≤ 8000 ∧ m 394 1 = L ∧ ∀ i, 0 ≤ i → i < L → m 395 i % 256 = W i
section SM
variable {d : Nat} {m m' m1 m2 m3 : w_M} {Q : Int → w_M → Prop} {W : Int → Int} {L p k v x : Int}
theorem l_op.rf : l_op m m := fun _ _ _ => rfl
theorem l_op.tr (h : l_op m m') (h2 : l_op m' m2) : l_op m m2 := fun i j q => (h2 i j q).trans (h i j q)
theorem c_ch.lop (h : c_ch m m' 376) : l_op m m' := fun i j q => h i j (by omega)
theorem sp_isFree_y (h : l_us m k) (hs : m 366 11 ≤ 200) (hQ : Q 0 m) : xc_ta_isFree (d + 1) k m Q := by
  obtain ⟨h1, h2, h3⟩ := h
  apply xr_ta_isFree
  rw [if_pos h1, if_pos h2, if_pos (by omega), if_neg h3]
  exact ⟨by omega, hQ⟩
theorem sp_isFree_n (h : ¬ l_us m k) (hQ : Q 1 m) : xc_ta_isFree (d + 1) k m Q := by
  apply xr_ta_isFree
  by_cases q1 : 0 < k
  · rw [if_pos q1]
    by_cases q2 : k < m 366 11
    · rw [if_pos q2]
      by_cases q3 : k < 200
      · rw [if_pos q3]
        refine ⟨by omega, ?_⟩
        by_cases q4 : m 367 k = 1
        · rw [if_pos q4]; exact hQ
        · exact absurd ⟨q1, q2, q4⟩ h
      · rw [if_neg q3]; exact hQ
    · rw [if_neg q2]; exact hQ
  · rw [if_neg q1]; exact hQ
theorem sp_howOf_y (h : l_us m k) (hs : m 366 11 ≤ 200) (hQ : Q (m 367 k) m) : xc_ta_howOf (d + 2) k m Q := by
  apply xr_ta_howOf
  refine sp_isFree_y (d := d) h hs ?_
  rw [if_pos rfl]
  exact ⟨by have := h.1; have := h.2.1; omega, hQ⟩
theorem sp_howOf_n (h : ¬ l_us m k) (hQ : Q 1 m) : xc_ta_howOf (d + 2) k m Q := by
  apply xr_ta_howOf
  refine sp_isFree_n (d := d) h ?_
  rw [if_neg (by decide)]
  exact hQ
theorem sp_placeOf_y (h : l_us m k) (hs : m 366 11 ≤ 200) (hQ : Q (m 368 k) m) : xc_ta_placeOf (d + 2) k m Q := by
  apply xr_ta_placeOf
  refine sp_isFree_y (d := d) h hs ?_
  rw [if_pos rfl]
  exact ⟨by have := h.1; have := h.2.1; omega, hQ⟩
theorem sp_generationOf_y (h : l_us m k) (hs : m 366 11 ≤ 200) (hQ : Q (m 369 k) m) : xc_ta_generationOf (d + 2) k m Q := by
  apply xr_ta_generationOf
  refine sp_isFree_y (d := d) h hs ?_
  rw [if_pos rfl]
  exact ⟨by have := h.1; have := h.2.1; omega, hQ⟩
theorem sp_rootOf_y (h : l_us m k) (hs : m 366 11 ≤ 200) (hQ : Q (m 370 k) m) : xc_ta_rootOf (d + 1) k m Q := by
  obtain ⟨h1, h2, h3⟩ := h
  apply xr_ta_rootOf
  rw [if_pos h1, if_pos h2, if_pos (by omega), if_neg h3]
  exact ⟨by omega, by omega, hQ⟩
theorem sp_setRoot_y (h : l_us m k) (hs : m 366 11 ≤ 200) (hQ : Q 0 (w_up m 370 k v)) : xc_ta_setRoot (d + 2) k v m Q := by
  apply xr_ta_setRoot
  refine sp_isFree_y (d := d) h hs ?_
  rw [if_pos rfl]
  exact ⟨by have := h.1; have := h.2.1; omega, hQ⟩
theorem sp_settle_y (h : l_us m k) (hs : m 366 11 ≤ 200) (hQ : Q 0 (w_up (w_up m 370 k v) 369 k 0)) : xc_ta_settle (d + 2) k v m Q := by
  apply xr_ta_settle
  refine sp_isFree_y (d := d) h hs ?_
  rw [if_pos rfl]
  have := h.1
  have := h.2.1
  exact ⟨by omega, by omega, hQ⟩
theorem sp_clip (hQ : Q (if x < 0 ∨ m 394 1 < x then m 394 1 else x) m) : xc_lo_clip (d + 1) x m Q := by
  apply xr_lo_clip
  by_cases q1 : x < 0
  · rw [if_pos (Or.inl q1)] at hQ; rw [if_pos q1]; exact hQ
  · rw [if_neg q1]
    by_cases q2 : m 394 1 < x
    · rw [if_pos (Or.inr q2)] at hQ; rw [if_pos q2]; exact hQ
    · rw [if_neg (by omega)] at hQ; rw [if_neg q2]; exact hQ
theorem sp_failObject (hs : m 366 11 ≤ 200) (hQ : ∀ m', l_op m m' → m' 376 6 ≠ 0 → Q (-1) m') : xc_lo_failObject (d + 3) k m Q := by
  have fin : ∀ c : Int, xc_ps_fail (d + 2) 376 6 c m (fun r m' => Q r m') := fun c => sp_fail1 (d := d + 1) (Or.inl rfl) (fun m' f h => hQ m' (fun i j q => f i j (by omega)) (h (by decide)))
  apply xr_lo_failObject
  by_cases u : l_us m k
  · refine sp_howOf_y (d := d) u hs ?_
    by_cases q : m 367 k = 2
    · rw [if_pos q]
      refine sp_placeOf_y (d := d) u hs ?_
      refine sp_clip (d := d + 1) ?_
      exact fin _
    · rw [if_neg q]; exact fin _
  · refine sp_howOf_n (d := d) u ?_
    rw [if_neg (by decide)]
    exact fin _
theorem sp_waits (h9 : m 394 9 ≤ 200) (H1 : ∀ i, 0 ≤ i → i < m 394 9 → m 396 i = k → Q 1 m) (H0 : (∀ i, 0 ≤ i → i < m 394 9 → m 396 i ≠ k) → Q 0 m) : xc_lo_waits (d + 1) k m Q := by
  apply xr_lo_waits
  have key : ∀ (j : Nat) (i : Int), (i + j = m 394 9 ∨ (j = 0 ∧ m 394 9 ≤ i)) → 0 ≤ i → (∀ y, 0 ≤ y → y < i → m 396 y ≠ k) → xp_lo_waits_2 d k i m Q := by
    intro j
    induction j with
    | zero =>
      intro i hi i0 hx
      apply xr_lo_waits_2
      rw [if_neg (by omega)]
      exact H0 (fun y y0 y1 => hx y y0 (by omega))
    | succ j ih =>
      intro i hi i0 hx
      apply xr_lo_waits_2
      rw [if_pos (by omega), if_pos (by omega)]
      refine ⟨by omega, ?_⟩
      by_cases q : m 396 i = k
      · rw [if_pos q]; exact H1 i i0 (by omega) q
      · rw [if_neg q, w_32_id (x := i + 1) (by omega) (by omega)]
        refine ih (i + 1) (by omega) (by omega) (fun y y0 y1 => ?_)
        by_cases z : y = i
        · subst z; exact q
        · exact hx y y0 (by omega)
  exact key (m 394 9).toNat 0 (by omega) (by decide) (fun y y0 y1 => by omega)
/-- the parser sees the whole file -/
theorem sp_open (h : l_fb m W L) (hQ : ∀ m', l_op m m' → m' 376 6 = m 376 6 → m' 376 3 = 0 → e_J m' W L 0 → Q 0 m') : xc_ps_open (d + 1) 376 395 0 (m 394 1) m Q := by
  obtain ⟨hok, hL, h1, hW⟩ := h
  have L0 := hok.1
  have l395 : w_ln 395 = 8000 := w_ln_eq s0_395
  apply xr_ps_open (Or.inl rfl)
  refine ⟨⟨1, 8000, s0_395, by decide, by decide⟩, ?_⟩
  rw [h1, l395, show max 0 (min L 8000) = L by omega, show max 0 (min 0 L) = 0 by omega]
  obtain ⟨m4, hm4⟩ : ∃ m4, m4 = w_up (w_up (w_up (w_up (w_up m 376 2 395) 376 5 L) 376 3 0) 376 4 0) 376 11 (-1) := ⟨_, rfl⟩
  rw [← hm4]
  have f4 : ∀ i j : Int, ¬ (i = 376 ∧ (j = 2 ∨ j = 3 ∨ j = 4 ∨ j = 5 ∨ j = 11)) → m4 i j = m i j := fun i j q => by
    rw [hm4]
    unfold w_up
    rw [if_neg (by omega), if_neg (by omega), if_neg (by omega), if_neg (by omega), if_neg (by omega)]
  have g2 : m4 376 2 = 395 := by rw [hm4, w_up_nb (by decide), w_up_nb (by decide), w_up_nb (by decide), w_up_nb (by decide), w_up_eq]
  have g5 : m4 376 5 = L := by rw [hm4, w_up_nb (by decide), w_up_nb (by decide), w_up_nb (by decide), w_up_eq]
  have g3 : m4 376 3 = 0 := by rw [hm4, w_up_nb (by decide), w_up_nb (by decide), w_up_eq]
  have g4 : m4 376 4 = 0 := by rw [hm4, w_up_nb (by decide), w_up_eq]
  have g11 : m4 376 11 = -1 := by rw [hm4, w_up_eq]
  refine hQ m4 (fun i j q => f4 i j (by omega)) (f4 _ _ (by omega)) g3 ⟨⟨⟨hok, Or.inl rfl, by rw [g2]; decide, by rw [g2]; exact ⟨8000, s0_395⟩, by rw [g2]; exact ⟨1, 8000, s0_395, by decide, by decide⟩, by rw [g3]; decide, by rw [g5, g3]; omega, by rw [g5, g2, l395]; omega, by rw [g2, l395]; decide, fun i i0 i1 => ?_⟩, by rw [g4, g3]; rfl, Int.le_refl _, L0, fun q q0 q1 q2 => ?_⟩, g2⟩
  · rw [g2, g3, Int.zero_add, f4 _ _ (by omega)]
    exact hW i i0 i1
  · rw [g11, g3] at q2
    omega
end SM
