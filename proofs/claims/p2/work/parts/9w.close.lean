/-! ===== the table is closed; a load that has failed ===== -/
def e_kn (m n : w_M) (k : Int) : Prop := (n 451 k = 0 ∧ m 367 k = 1) ∨ (1 ≤ n 451 k ∧ e_al (m 367 k) (m 368 k) (m 369 k) (n 451 k) (n 452 k) (n 453 k))
/-- all sections have been read: what both know of the numbers -/
def e_ln (g : s_g) (m n : w_M) (W : Int → Int) (L : Int) : Prop :=
  e_X g m n W L ∧ (0 ≤ n 428 34 ∧ n 428 34 ≤ 49000) ∧ (1 ≤ n 428 60 ∧ n 428 60 ≤ 200) ∧ m 366 11 = n 428 60 ∧ m 366 12 = n 428 60 ∧ (∀ k, 1 ≤ k → k < n 428 60 → e_kn m n k) ∧ (∀ k, n 428 60 ≤ k → k < 200 → m 367 k = 1) ∧
  (∀ k, 0 ≤ k → k < 200 → (k < 1 ∨ n 428 60 ≤ k) → n 451 k = 0) ∧ e_tl g m n
def e_cl (m m' : w_M) : Prop := ∀ i j : Int, i ≠ 367 → ¬ (i = 366 ∧ (j = 11 ∨ j = 12)) → m' i j = m i j
section SL
variable {d : Nat} {g g' : s_g} {m m' m0 m1 m2 m3 n n' n1 n2 : w_M} {Q : Int → w_M → Prop} {W : Int → Int} {L p v s : Int}
theorem sp_ta_close (hs : 1 ≤ s ∧ s ≤ 200) (hQ : ∀ m', e_cl m m' → m' 366 11 = s → m' 366 12 = s → (∀ k, 0 ≤ k → k < 200 → m' 367 k = if k < s ∧ m 367 k ≠ 0 then m 367 k else 1) → Q 0 m') : xc_ta_close (d + 1) s m Q := by
  apply xr_ta_close
  rw [show min s 200 = s by omega]
  have key : ∀ (k : Nat) (i : Int) (m1 : w_M), i + k = 200 → 0 ≤ i → e_cl m m1 → m1 366 11 = s → m1 366 12 = s → (∀ x, 0 ≤ x → x < 200 → m1 367 x = if i ≤ x then m 367 x else (if x < s ∧ m 367 x ≠ 0 then m 367 x else 1)) → xp_ta_close_21 d i m1 Q := by
    intro k
    induction k with
    | zero =>
      intro i m1 hi i0 hf h1 h2 hx
      apply xr_ta_close_21
      rw [if_neg (by omega)]
      refine hQ _ hf h1 h2 (fun x x0 x1 => ?_)
      rw [hx x x0 x1, if_neg (by omega)]
    | succ k ih =>
      intro i m1 hi i0 hf h1 h2 hx
      have hxi : m1 367 i = m 367 i := by rw [hx i i0 (by omega), if_pos (Int.le_refl _)]
      have stay : (if i < s ∧ m 367 i ≠ 0 then m 367 i else 1) = m 367 i → xp_ta_close_21 d (i + 1) m1 Q := fun e => by
        refine ih (i + 1) m1 (by omega) (by omega) hf h1 h2 (fun x x0 x1 => ?_)
        rw [hx x x0 x1]
        by_cases z : x = i
        · subst z; rw [if_pos (Int.le_refl _), if_neg (by omega), e]
        · by_cases z1 : i ≤ x
          · rw [if_pos z1, if_pos (by omega)]
          · rw [if_neg z1, if_neg (show ¬ i + 1 ≤ x by omega)]
      have put : (if i < s ∧ m 367 i ≠ 0 then m 367 i else 1) = 1 → xp_ta_close_21 d (i + 1) (w_up m1 367 i 1) Q := fun e => by
        refine ih (i + 1) _ (by omega) (by omega) (fun a b q1 q2 => ?_) (by rw [w_up_ne (by decide)]; exact h1) (by rw [w_up_ne (by decide)]; exact h2) (fun x x0 x1 => ?_)
        · rw [w_up_ne q1]; exact hf a b q1 q2
        · by_cases z : x = i
          · subst z; rw [w_up_eq, if_neg (by omega), e]
          · rw [w_up_nb z, hx x x0 x1]
            by_cases z1 : i ≤ x
            · rw [if_pos z1, if_pos (by omega)]
            · rw [if_neg z1, if_neg (show ¬ i + 1 ≤ x by omega)]
      apply xr_ta_close_21
      rw [if_pos (by omega), h1, hxi, w_32_id (x := i + 1) (by omega) (by omega)]
      by_cases q : i < s
      · rw [if_pos q]
        refine ⟨by omega, ?_⟩
        by_cases q2 : m 367 i = 0
        · rw [if_pos q2]
          exact ⟨by omega, put (if_neg (fun z => z.2 q2))⟩
        · rw [if_neg q2]
          exact stay (if_pos ⟨q, q2⟩)
      · rw [if_neg q]
        exact ⟨by omega, put (if_neg (fun z => q z.1))⟩
  refine key 200 0 _ (by decide) (by decide) (fun i j q1 q2 => ?_) (by rw [w_up_nb (by decide), w_up_eq]) (by rw [w_up_eq]) (fun x x0 x1 => ?_)
  · unfold w_up
    rw [if_neg (by omega), if_neg (by omega)]
  · rw [if_pos x0, w_up_ne (by decide), w_up_ne (by decide)]
/-- behind the sections -/
theorem s_close (h : e_Y g m n W L) (hj : 1 ≤ n 428 61) (H : ∀ m', e_cl m m' → e_ln g m' n W L → xp_x_load_138 (d + 5) (m 359 6) 1 0 m' Q) : xp_x_load_84 (d + 5) m Q := by
  obtain ⟨X, y0, y1, y2, y3, y4, y5, yz⟩ := id h
  obtain ⟨⟨s0, s1⟩, nu, tl⟩ := y5 (by omega)
  obtain ⟨t1, t2, t3, t4, t5, t6⟩ := id tl
  apply xr_x_load_84
  rw [if_pos X.2.2.2.2.2.1, t4]
  refine sp_wholeEntry (d := d + 1) X.1 X.2.1 (by decide) ⟨t1, t2⟩ t3 ?_
  rw [t5, show max (-1) (n 428 60) = n 428 60 by omega]
  refine sp_ta_close (d := d + 4) ⟨s0, s1⟩ (fun m' f e1 e2 ek => ?_)
  have fb : ∀ i j : Int, ¬ (366 ≤ i ∧ i ≤ 367) → m' i j = m i j := fun i j q => f i j (by omega) (by omega)
  refine H m' f ⟨?_, y0, ⟨s0, s1⟩, e1, e2, fun k k0 k1 => ?_, fun k k0 k1 => ?_, yz, ?_⟩
  · obtain ⟨x1, x2, ⟨p, x3⟩, x4, x5, x6, x7, x8, x9, x10⟩ := X
    refine ⟨x1.sm2 (fun i j q => fb i j (by omega)), x2.sm2 (fun i j q => fb i j (by omega)), ⟨p, e_J_same x3 (fun j => fb _ _ (by omega)) (fun j => fb _ _ (by omega))⟩, by rw [fb _ _ (by omega)]; exact x4, by rw [fb _ _ (by omega)]; exact x5, by rw [fb _ _ (by omega)]; exact x6, x7, x8, ?_, ?_⟩
    · unfold s_ct at x9 ⊢
      rw [fb _ _ (by omega), fb _ _ (by omega)]
      exact x9
    · rw [fb _ _ (by omega), fb _ _ (by omega)]
      exact x10
  · have e68 := f 368 k (by decide) (by omega)
    have e69 := f 369 k (by decide) (by omega)
    have e67 := ek k (by omega) (by omega)
    unfold e_kn
    rw [e68, e69, e67]
    rcases nu k k0 k1 with ⟨a1, a2, a3⟩ | ⟨a1, a2⟩
    · refine Or.inl ⟨a2, ?_⟩
      rw [if_neg (fun z => z.2 a3)]
    · obtain ⟨b1, b2, b3, b4⟩ := id a2
      rw [if_pos ⟨k1, by omega⟩]
      by_cases z : n 451 k = 0
      · exact Or.inl ⟨z, by omega⟩
      · exact Or.inr ⟨by omega, a2⟩
  · rw [ek k (by omega) k1, if_neg (by omega)]
  · obtain ⟨a1, a2, a3, a4, a5, a6, a7, a8, a9, b1, b2, b3⟩ := tl
    refine ⟨a1, a2, a3, by rw [fb _ _ (by omega)]; exact a4, a5, a6, a7, by rw [fb _ _ (by omega)]; exact a8, a9, by rw [fb _ _ (by omega), fb _ _ (by omega)]; exact b1, by rw [fb _ _ (by omega)]; exact b2, ?_⟩
    rw [fb _ _ (by omega), fb _ _ (by omega)]
    obtain ⟨⟨r1, r2⟩, r3⟩ := b3
    exact ⟨⟨r1, fun c q1 q2 => by rw [fb _ _ (by omega)]; exact r2 c q1 q2⟩, r3⟩
/-- a load that failed: the class, the reference -/
theorem c_lfail (h : m 376 6 ≠ 0) (hQ : ∀ m', (∀ i j : Int, ¬ (i = 357 ∧ 14 ≤ j ∧ j ≤ 16) → m' i j = m i j) → m' 357 14 = 0 → m' 357 15 = m 376 6 → m' 357 16 = m 376 7 → Q (w_32 (-100 - m 376 6)) m') : xp_x_load_84 d m Q := by
  apply xr_x_load_84
  rw [if_neg h]
  apply xr_x_load_138
  rw [if_pos (by decide), if_pos rfl]
  apply xr_x_load_229
  rw [if_neg h, if_neg h]
  apply xr_x_load_313
  refine ⟨Or.inl rfl, ?_⟩
  rw [if_pos rfl, if_pos rfl, w_up_eq, w_up_ne (by decide)]
  refine hQ _ (fun i j q => ?_) ?_ ?_ ?_
  · unfold w_up
    rw [if_neg (by omega), if_neg (by omega), if_neg (by omega)]
  · rw [w_up_nb (by decide), w_up_eq]
  · rw [w_up_nb (by decide), w_up_nb (by decide), w_up_eq]
  · rw [w_up_eq]
theorem r_lfail (h : n 428 27 ≠ 0) (hQ : ∀ n', (∀ i j : Int, ¬ (i = 428 ∧ ((68 ≤ j ∧ j ≤ 71) ∨ j = 84)) → n' i j = n i j) → n' 428 68 = n 428 27 → n' 428 69 = n 428 28 → n' 428 70 = 0 → n' 428 71 = -1 → n' 428 84 = 0 → Q (w_32 (-100 - n 428 27)) n') : xp_m_load_118 (d + 1) 0 n Q := by
  have g0 : ∀ n' : w_M, n' 428 27 = n 428 27 → f_m_good n' = 0 := fun n' e => if_neg (by rw [e]; exact h)
  have tail : xp_m_load_173 (d + 1) n Q := by
    apply xr_m_load_173
    refine sp_m_good (d := d) ?_
    rw [g0 _ (by rw [w_up_nb (by decide)]), if_pos rfl]
    refine sp_m_good (d := d) ?_
    rw [g0 _ (by rw [w_up_nb (by decide), w_up_nb (by decide), w_up_nb (by decide), w_up_nb (by decide)]), if_pos rfl, show (w_up (w_up (w_up (w_up n 428 68 (n 428 27)) 428 69 ((w_up n 428 68 (n 428 27)) 428 28)) 428 70 0) 428 71 (-1)) 428 27 = n 428 27 by rw [w_up_nb (by decide), w_up_nb (by decide), w_up_nb (by decide), w_up_nb (by decide)]]
    refine hQ _ (fun i j q => ?_) ?_ ?_ ?_ ?_ ?_
    · unfold w_up
      rw [if_neg (by omega), if_neg (by omega), if_neg (by omega), if_neg (by omega), if_neg (by omega)]
    · rw [w_up_nb (by decide), w_up_nb (by decide), w_up_nb (by decide), w_up_nb (by decide), w_up_eq]
    · rw [w_up_nb (by decide), w_up_nb (by decide), w_up_nb (by decide), w_up_eq, w_up_nb (by decide)]
    · rw [w_up_nb (by decide), w_up_nb (by decide), w_up_eq]
    · rw [w_up_nb (by decide), w_up_eq]
    · rw [w_up_eq]
  apply xr_m_load_118
  by_cases q : 0 < n 428 60
  · rw [if_pos q]
    refine sp_m_good (d := d) ?_
    rw [g0 n rfl, if_pos rfl]
    refine sp_m_good (d := d) ?_
    rw [g0 n rfl, if_pos rfl]
    exact tail
  · rw [if_neg q]
    refine sp_m_good (d := d) ?_
    rw [g0 n rfl, if_pos rfl]
    exact tail
end SL
