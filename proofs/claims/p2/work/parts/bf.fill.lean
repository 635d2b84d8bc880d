/-! ===== the painter: the class fills a font's widths ===== -/
/-- the width of a code -/
noncomputable def p_wd (n : w_M) (L : List Int) (lo hi c : Int) : Int := if c < lo then 0 else if hi < c then 0 else f_m_unitsOf n (o_re n (L.getD (c - lo).toNat (-1)))
section PF
variable {d : Nat} {g : s_g} {m n : w_M} {Q : Int → w_M → Prop} {lo hi N x z : Int}
theorem s_ch.step : ∀ (L : List Int) (x : Int) (k : Nat), s_ch n N x L → k + 1 < L.length → n 437 (L.getD k (-1)) = L.getD (k + 1) (-1) := by
  intro L
  induction L with
  | nil => intro x k _ hk; exact absurd hk (Nat.not_lt_zero _)
  | cons y L ih =>
    intro x k hc hk
    obtain ⟨c1, c2, c3, c4⟩ := hc
    cases k with
    | zero =>
      cases L with
      | nil => simp at hk
      | cons u L => exact c4.1
    | succ k => exact ih (n 437 y) k c4 (by simp only [List.length_cons] at hk; omega)
theorem c_fill (h : o_I g m n) (hr : 0 ≤ lo ∧ lo ≤ hi ∧ hi ≤ 255) (L : List Int) (hc : s_ch n (n 428 15) x L) (hl : (L.length : Int) = hi - lo + 1)
    (hG : (∀ u ∈ L, t_nu n (o_re n u)) → ∀ m', (∀ i j : Int, i ≠ 414 → m' i j = m i j) → (∀ j, 0 ≤ j → j < 256 → m' 414 j = p_wd n L lo hi j) → Q 1 m')
    (hB : ¬ (∀ u ∈ L, t_nu n (o_re n u)) → ∀ m', (∀ i j : Int, i ≠ 414 → m' i j = m i j) → Q 0 m') :
    ∀ (K : Nat) (c y : Int) (m1 : w_M), c + K = 256 → 0 ≤ c → (∀ i j : Int, i ≠ 414 → m1 i j = m i j) → (∀ j, 0 ≤ j → j < c → m1 414 j = p_wd n L lo hi j) → (c ≤ hi → y = g.1 (L.getD (max c lo - lo).toNat (-1))) →
      (∀ j, lo ≤ j → j < c → j ≤ hi → t_nu n (o_re n (L.getD (j - lo).toNat (-1)))) → xp_pa_readFont_170 (d + 4) lo hi y c m1 Q := by
  intro K
  induction K with
  | zero =>
    intro c y m1 hk c0 hf hx hy hn
    apply xr_pa_readFont_170
    rw [if_neg (by omega)]
    refine hG (fun u hu => ?_) m1 hf (fun j j0 j1 => hx j j0 (by omega))
    obtain ⟨k, hk2, e⟩ := List.getElem_of_mem hu
    have := hn (lo + k) (by omega) (by omega) (by omega)
    rw [show (lo + (k : Int) - lo).toNat = k by omega, List.getD_eq_getElem?_getD, List.getElem?_eq_getElem hk2, Option.getD_some, e] at this
    exact this
  | succ K ih =>
    intro c y m1 hk c0 hf hx hy hn
    have e1 : w_32 (c + 1) = c + 1 := w_32_id (by omega) (by omega)
    have f2 : ∀ v : Int, ∀ i j : Int, i ≠ 414 → (w_up m1 414 c v) i j = m i j := fun v i j q => by rw [w_up_ne q]; exact hf i j q
    have out : (c < lo ∨ hi < c) → xp_pa_readFont_170 (d + 4) lo hi y (c + 1) (w_up m1 414 c 0) Q := fun o => by
      refine ih (c + 1) y _ (by omega) (by omega) (f2 0) (fun j j0 j1 => ?_) (fun q => ?_) (fun j j0 j1 j2 => hn j j0 (by omega) j2)
      · by_cases z : j = c
        · rw [z, w_up_eq]
          unfold p_wd
          by_cases q : c < lo
          · rw [if_pos q]
          · rw [if_neg q, if_pos (by omega)]
        · rw [w_up_nb z]; exact hx j j0 (by omega)
      · rw [hy (by omega), show max (c + 1) lo = max c lo by omega]
    apply xr_pa_readFont_170
    rw [if_pos (by omega), e1]
    refine ⟨by omega, z_ite (fun q => out (Or.inl q)) (fun q => z_ite (fun q2 => out (Or.inr q2)) (fun q2 => ?_))⟩
    obtain ⟨u, hu⟩ : ∃ u, u = L.getD (c - lo).toNat (-1) := ⟨_, rfl⟩
    have hK : (c - lo).toNat < L.length := by omega
    have um : u ∈ L := by
      rw [hu, List.getD_eq_getElem?_getD, List.getElem?_eq_getElem hK]
      exact List.getElem_mem hK
    have ur := hc.mem u um
    have ey : y = g.1 u := by rw [hy (by omega), show max c lo = c by omega, ← hu]
    obtain ⟨m2, hm2⟩ : ∃ m2, m2 = w_up m1 414 c 0 := ⟨_, rfl⟩
    have g2 : ∀ i j : Int, i ≠ 414 → m2 i j = m i j := fun i j w => by rw [hm2]; exact f2 0 i j w
    have o2 : o_I g m2 n := h.fr (fun i j _ w _ => g2 i j (by omega)) (g2 _ _ (by decide)) (g2 _ _ (by decide)) (fun _ _ _ _ => rfl) (fun _ _ => rfl)
    have zn := o_re_no h (y := u) (Or.inr ur)
    rw [← hm2, ey, show g.1 u = s_up g.1 u from (s_upn ur.1).symm]
    refine c_value (d := d + 1) o2 (Or.inr ur) ?_
    refine c_isNum (d := d + 2) o2 zn (fun i2 => ?_) (fun i2 => ?_)
    · rw [if_neg (show ¬ (1 : Int) = 0 by decide)]
      refine sp_st_units (d := d + 2) ?_
      have zr : o_re n u < n 428 15 := by
        have z0 := i2.1
        rcases zn with z | z <;> omega
      rw [(a_units o2 zr i2).1]
      refine ⟨by omega, ?_⟩
      obtain ⟨m3, hm3⟩ : ∃ m3, m3 = w_up m2 414 c (f_m_unitsOf n (o_re n u)) := ⟨_, rfl⟩
      rw [← hm3]
      have g3 : ∀ i j : Int, i ≠ 414 → m3 i j = m i j := fun i j w => by rw [hm3, w_up_ne w]; exact g2 i j w
      obtain ⟨b1, b2, b3, b4, b5, b6, b7, nd⟩ := a_nd h ur
      refine sp_st_nextOf (d := d + 3) ?_
      rw [s_upn ur.1, f_next_v (by rw [g3 359 6 (by decide)]; exact b5) (by rw [g3 359 6 (by decide)]; exact b6), g3 363 _ (by decide)]
      refine ih (c + 1) _ m3 (by omega) (by omega) g3 (fun j j0 j1 => ?_) (fun qq => ?_) (fun j j0 j1 j2 => ?_)
      · rw [hm3]
        by_cases z : j = c
        · rw [z, w_up_eq]
          unfold p_wd
          rw [if_neg q, if_neg q2, ← hu]
        · rw [w_up_nb z, hm2, w_up_nb z]; exact hx j j0 (by omega)
      · have st := s_ch.step L x (c - lo).toNat hc (by omega)
        rw [← hu] at st
        rw [show (max (c + 1) lo - lo).toNat = (c - lo).toNat + 1 by omega, ← st]
        have lk := nd.2.2.2.2.2.2.2.2.2.1
        rcases lk with e | ⟨_, _, e⟩
        · exfalso
          have hK2 : (c - lo).toNat + 1 < L.length := by omega
          have : L.getD ((c - lo).toNat + 1) (-1) ∈ L := by
            rw [List.getD_eq_getElem?_getD, List.getElem?_eq_getElem hK2]
            exact List.getElem_mem hK2
          have := (hc.mem _ this).1
          omega
        · exact e
      · by_cases z : j = c
        · rw [z, ← hu]; exact i2
        · exact hn j j0 (by omega) j2
    · rw [if_pos rfl]
      exact hB (fun w => i2 (w u um)) m2 g2
end PF
