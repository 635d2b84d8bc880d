/-! ===== the painter: the widths of a font ===== -/
/-- the reference's font in its ways, and the class's widths -/
def p_fw (g : s_g) (m n : w_M) : Prop := (0 ≤ n 479 4 ∧ n 479 4 < n 428 15 ∧ n 432 (n 479 4) = 6) ∧ (0 ≤ n 479 2 ∧ n 479 2 ≤ n 479 3 ∧ n 479 3 ≤ 255) ∧ n 435 (n 479 4) = n 479 3 - n 479 2 + 1 ∧ (∀ y ∈ g.2.1 (n 479 4), t_nu n (o_re n y)) ∧
  ∀ c, 0 ≤ c → c < 256 → p_32 (m 414 c) ∧ m 414 c = if c < n 479 2 then 0 else if n 479 3 < c then 0 else f_m_unitsOf n (o_re n ((g.2.1 (n 479 4)).getD (c - n 479 2).toNat (-1)))
section PW
variable {d : Nat} {g : s_g} {m n n' : w_M} {Q : Int → w_M → Prop} {w x y j : Int}
theorem r_w41 : ∀ (K : Nat) (L : List Int) (x j : Int), s_ch n (n 428 15) x L → n 428 15 ≤ 40000 → j + K = w → 0 ≤ j → w ≤ 40000 → K < L.length → xp_m_widthOf_41 d w (L.getD K (-1)) w n Q → xp_m_widthOf_41 d w x j n Q := by
  intro K
  induction K with
  | zero =>
    intro L x j hc hN hj j0 hi hK hQ
    cases L with
    | nil => exact absurd hK (Nat.lt_irrefl 0)
    | cons y L =>
      obtain ⟨c1, c2⟩ := hc
      have e1 : j = w := by omega
      rw [e1, c1]
      exact hQ
  | succ K ih =>
    intro L x j hc hN hj j0 hi hK hQ
    cases L with
    | nil => exact absurd hK (Nat.not_lt_zero _)
    | cons y L =>
      obtain ⟨c1, c2, c3, c4⟩ := hc
      apply xr_m_widthOf_41
      rw [if_pos (by omega), w_32_id (x := j + 1) (by omega) (by omega), c1]
      refine ⟨by omega, ih L (n 437 y) (j + 1) c4 hN (by omega) (by omega) hi ?_ hQ⟩
      have := hK
      simp only [List.length_cons] at this
      omega
theorem p_fw.W (h : p_fw g m n) (oI : o_I g m n) : p_W m n := fun c c0 c1 => by
  obtain ⟨⟨f1, f2, f3⟩, ⟨f4, f5, f6⟩, f7, f8, f9⟩ := h
  obtain ⟨v32, hv⟩ := f9 c c0 c1
  refine ⟨v32, fun d n' X hs hX => ?_⟩
  obtain ⟨s1, s2, s3⟩ := hs
  have oI' : o_I g m n' := oI.fr (fun _ _ _ _ _ => rfl) rfl rfl s1 s2
  have bd := oI'.bd
  have e15 := s2 15 (by decide)
  apply xr_m_widthOf
  rw [s3, s3, s3]
  by_cases q1 : c < n 479 2
  · rw [if_pos q1] at hv ⊢
    rw [hv] at hX
    exact hX n' e80.rf
  · rw [if_neg q1] at hv ⊢
    by_cases q2 : n 479 3 < c
    · rw [if_pos q2] at hv ⊢
      rw [hv] at hX
      exact hX n' e80.rf
    · rw [if_neg q2] at hv ⊢
      have lf := oI'.1.2.2.2.2 (n 479 4) f1 (by omega) (Or.inl (by rw [s1 432 _ (by decide) (by decide)]; exact f3))
      obtain ⟨⟨l1, l2, l3, l4⟩, _⟩ := lf
      rw [s1 435 _ (by decide) (by decide)] at l2
      have hK : (c - n 479 2).toNat < (g.2.1 (n 479 4)).length := by omega
      obtain ⟨u, hu⟩ : ∃ u, u = (g.2.1 (n 479 4)).getD (c - n 479 2).toNat (-1) := ⟨_, rfl⟩
      have um : u ∈ g.2.1 (n 479 4) := by
        rw [hu, List.getD_eq_getElem?_getD, List.getElem?_eq_getElem hK]
        exact List.getElem_mem hK
      have ur := l1.mem u um
      have nu := f8 u um
      rw [← hu] at hv
      refine ⟨by omega, ?_⟩
      refine r_w41 (c - n 479 2).toNat (g.2.1 (n 479 4)) _ (n 479 2) l1 (by omega) (by omega) f4 (by omega) hK ?_
      rw [← hu]
      apply xr_m_widthOf_41
      rw [if_neg (by omega)]
      refine r_resolve2 (d := d + 5) oI' e80.rf (Or.inr ur) (fun n2 e2 _ => ?_)
      have er : o_re n' u = o_re n u := o_re_fr s1 (s2 60 (by decide))
      rw [er]
      have zr : o_re n u < n 428 15 := by
        have := o_re_no oI (y := u) (Or.inr (by omega))
        have z0 := nu.1
        rcases this with z | z <;> omega
      have ku : k_m_unitsOf n2 (o_re n u) := by
        have z0 := nu.1
        unfold k_m_unitsOf
        exact ⟨⟨z0, by omega⟩, z0, by omega⟩
      refine sp_m_unitsOf (d := d + 7) ku ?_
      have : f_m_unitsOf n2 (o_re n u) = m 414 c := by
        rw [hv]
        unfold f_m_unitsOf
        rw [e2 432 _ (by omega), e2 433 _ (by omega), s1 432 _ (by decide) (by decide), s1 433 _ (by decide) (by decide)]
      rw [this]
      exact hX n2 e2
end PW
