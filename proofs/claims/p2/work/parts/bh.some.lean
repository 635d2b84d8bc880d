/-! ===== the painter: whether TJ has a string ===== -/
section PH
variable {d : Nat} {g : s_g} {m n : w_M} {Q : Int → w_M → Prop} {l1 x y : Int}
theorem p_or0 : w_or 0 1 = 1 ∧ w_or 1 1 = 1 ∧ w_or 0 0 = 0 ∧ w_or 1 0 = 1 := by decide
theorem r_some : ∀ (L : List Int) (x l2 : Int), (l2 = 0 ∨ l2 = 1) → s_ch n (n 428 15) x L → n 428 15 ≤ 40000 → ((l2 = 1 ∨ ∃ z ∈ L, n 432 z = 5) → xp_m_row2_9 d l1 1 (-1) n Q) → (l2 = 0 → (∀ z ∈ L, n 432 z ≠ 5) → xp_m_row2_9 d l1 0 (-1) n Q) → xp_m_row2_9 d l1 l2 x n Q := by
  intro L
  induction L with
  | nil =>
    intro x l2 h2 hc hN h1 h0
    have hx : x = -1 := hc
    rw [hx]
    rcases h2 with e | e
    · rw [e]; exact h0 e (fun z hz => absurd hz (List.not_mem_nil))
    · rw [e]; exact h1 (Or.inl e)
  | cons y L ih =>
    intro x l2 h2 hc hN h1 h0
    obtain ⟨c1, c2, c3, c4⟩ := hc
    subst c1
    obtain ⟨o1, o2, o3, o4⟩ := p_or0
    apply xr_m_row2_9
    rw [if_neg (by omega)]
    refine ⟨⟨c2, by omega⟩, z_ite (fun q => ⟨⟨c2, by omega⟩, ?_⟩) (fun q => ⟨⟨c2, by omega⟩, ?_⟩)⟩
    · have e : w_or l2 1 = 1 := by rcases h2 with e | e <;> rw [e] <;> assumption
      rw [e]
      exact ih _ 1 (Or.inr rfl) c4 hN (fun _ => h1 (Or.inr ⟨x, List.mem_cons_self .., q⟩)) (fun u => absurd u (by decide))
    · have e : w_or l2 0 = l2 := by rcases h2 with e | e <;> rw [e] <;> assumption
      rw [e]
      refine ih _ l2 h2 c4 hN (fun u => h1 ?_) (fun u w => h0 u (fun z hz => ?_))
      · rcases u with u | ⟨z, z1, z2⟩
        · exact Or.inl u
        · exact Or.inr ⟨z, List.mem_cons_of_mem _ z1, z2⟩
      · rcases List.mem_cons.mp hz with e | e
        · rw [e]; exact q
        · exact w z e
theorem c_some (hst : s_st g m n) : ∀ (L : List Int) (x y : Int), s_ch n (n 428 15) x L → (L ≠ [] → y = g.1 x) → ((∃ z ∈ L, n 432 z = 5) → Q 1 m) → ((∀ z ∈ L, n 432 z ≠ 5) → Q 0 m) → xp_pa_hasString_18 (d + 1) y (L.length : Int) m Q := by
  have bd := hst.1
  unfold s_bd at bd
  intro L
  induction L with
  | nil =>
    intro x y hc hy h1 h0
    apply xr_pa_hasString_18
    rw [if_neg (by decide)]
    exact h0 (fun z hz => absurd hz (List.not_mem_nil))
  | cons z L ih =>
    intro x y hc hy h1 h0
    obtain ⟨c1, c2, c3, c4⟩ := hc
    subst c1
    have ey := hy (by simp)
    subst ey
    have nd := hst.2.1 x c2 c3
    have r : 0 ≤ g.1 x ∧ g.1 x < m 359 6 := ⟨by have := nd.1; omega, nd.2.1⟩
    have lk := nd.2.2.2.2.2.2.2.2.2.1
    have len : ((x :: L).length : Int) = (L.length : Int) + 1 := by simp
    obtain ⟨N, hN⟩ : ∃ N : Int, N = (L.length : Int) := ⟨_, rfl⟩
    have N0 : 0 ≤ N := by omega
    have llen : N ≤ 40000 := by
      have := s_ch.len c4 (by omega)
      omega
    rw [len, ← hN]
    apply xr_pa_hasString_18
    rw [if_pos (by omega), show w_32 (N + 1 + -1) = N by rw [w_32_id (by omega) (by omega)]; omega]
    refine sp_st_kindOf (d := d) ?_
    rw [f_kind_v r (by omega), nd.2.2.1]
    refine z_ite (fun q => h1 ⟨x, List.mem_cons_self .., q⟩) (fun q => ?_)
    refine sp_st_nextOf (d := d) ?_
    rw [f_next_v r (by omega), hN]
    refine ih (n 437 x) _ c4 (fun w => ?_) (fun ⟨u, u1, u2⟩ => h1 ⟨u, List.mem_cons_of_mem _ u1, u2⟩) (fun w => h0 (fun u hu => ?_))
    · rcases lk with e | ⟨_, _, e⟩
      · exfalso
        cases L with
        | nil => exact w rfl
        | cons u L2 =>
          obtain ⟨u1, u2, _⟩ := c4
          omega
      · exact e
    · rcases List.mem_cons.mp hu with e | e
      · rw [e]; exact q
      · exact w u e
end PH
