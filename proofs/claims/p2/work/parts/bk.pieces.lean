/-! ===== the painter: the pieces of TJ are strings and numbers ===== -/
section PP
variable {d : Nat} {g : s_g} {m n : w_M} {Q : Int → w_M → Prop} {x y : Int}
theorem c_pieces (h : o_I g m n) : ∀ (L : List Int) (x y : Int), s_ch n (n 428 15) x L → (L ≠ [] → y = g.1 x) → ((∀ z ∈ L, n 432 z = 5 ∨ t_nu n z) → Q 1 m) → (¬ (∀ z ∈ L, n 432 z = 5 ∨ t_nu n z) → Q 0 m) → xp_pa_arePieces_18 (d + 2) y (L.length : Int) m Q := by
  have bd := h.bd
  intro L
  induction L with
  | nil =>
    intro x y hc hy h1 h0
    apply xr_pa_arePieces_18
    rw [if_neg (by decide)]
    exact h1 (fun z hz => absurd hz (List.not_mem_nil))
  | cons z L ih =>
    intro x y hc hy h1 h0
    obtain ⟨c1, c2, c3, c4⟩ := hc
    subst c1
    have ey := hy (by simp)
    subst ey
    obtain ⟨b1, b2, b3, b4, b5, b6, b7, nd⟩ := a_nd h ⟨c2, c3⟩
    have lk := nd.2.2.2.2.2.2.2.2.2.1
    have len : ((x :: L).length : Int) = (L.length : Int) + 1 := by simp
    obtain ⟨N, hN⟩ : ∃ N : Int, N = (L.length : Int) := ⟨_, rfl⟩
    have N0 : 0 ≤ N := by omega
    have llen : N ≤ 40000 := by
      have := s_ch.len c4 (by omega)
      omega
    have go : (n 432 x = 5 ∨ t_nu n x) → xp_pa_arePieces_18 (d + 2) (m 363 (g.1 x)) N m Q := fun t => by
      rw [hN]
      refine ih (n 437 x) _ c4 (fun w => ?_) (fun w => h1 (fun u hu => ?_)) (fun w => h0 (fun w2 => w (fun u hu => w2 u (List.mem_cons_of_mem _ hu))))
      · rcases lk with e | ⟨_, _, e⟩
        · exfalso
          cases L with
          | nil => exact w rfl
          | cons u L2 =>
            obtain ⟨u1, u2, _⟩ := c4
            omega
        · exact e
      · rcases List.mem_cons.mp hu with e | e
        · rw [e]; exact t
        · exact w u e
    rw [len, ← hN]
    apply xr_pa_arePieces_18
    rw [if_pos (by omega), show w_32 (N + 1 + -1) = N by rw [w_32_id (by omega) (by omega)]; omega]
    refine sp_st_kindOf (d := d + 1) ?_
    rw [b1]
    refine z_ite (fun q => ?_) (fun q => ?_)
    · refine sp_st_nextOf (d := d + 1) ?_
      rw [f_next_v b5 b6]
      exact go (Or.inl q)
    · rw [← o_upn (g := g) c2]
      refine c_isNum (d := d) h (Or.inr ⟨c2, c3⟩) (fun t => ?_) (fun t => ?_)
      · rw [if_neg (show ¬ (1 : Int) = 0 by decide)]
        refine sp_st_nextOf (d := d + 1) ?_
        rw [o_upn c2, f_next_v b5 b6]
        exact go (Or.inr t)
      · rw [if_pos rfl]
        refine h0 (fun w => ?_)
        rcases w x (List.mem_cons_self ..) with e | e
        · exact q e
        · exact t e
theorem r_shown0 : ∀ (L : List Int) (x : Int), s_ch n (n 428 15) x L → n 428 15 ≤ 40000 → Q 0 n → xp_m_areShown_9 d 0 x n Q := by
  intro L
  induction L with
  | nil =>
    intro x hc hN hQ
    have hx : x = -1 := hc
    apply xr_m_areShown_9
    rw [if_pos (by omega)]
    exact ⟨Or.inl rfl, hQ⟩
  | cons y L ih =>
    intro x hc hN hQ
    obtain ⟨c1, c2, c3, c4⟩ := hc
    subst c1
    apply xr_m_areShown_9
    rw [if_neg (by omega), if_pos rfl]
    exact ⟨⟨c2, by omega⟩, ih _ c4 hN hQ⟩
theorem r_pieces (h : o_I g m n) : ∀ (L : List Int) (x : Int), s_ch n (n 428 15) x L → ((∀ z ∈ L, n 432 z = 5 ∨ t_nu n z) → Q 1 n) → (¬ (∀ z ∈ L, n 432 z = 5 ∨ t_nu n z) → Q 0 n) → xp_m_areShown_9 (d + 1) 1 x n Q := by
  have bd := h.bd
  intro L
  induction L with
  | nil =>
    intro x hc h1 h0
    have hx : x = -1 := hc
    apply xr_m_areShown_9
    rw [if_pos (by omega)]
    exact ⟨Or.inr rfl, h1 (fun z hz => absurd hz (List.not_mem_nil))⟩
  | cons y L ih =>
    intro x hc h1 h0
    obtain ⟨c1, c2, c3, c4⟩ := hc
    subst c1
    have x4 : (0 : Int) ≤ x ∧ x < 40000 := by omega
    have go : (n 432 x = 5 ∨ t_nu n x) → xp_m_areShown_9 (d + 1) 1 (n 437 x) n Q := fun t => by
      refine ih (n 437 x) c4 (fun w => h1 (fun u hu => ?_)) (fun w => h0 (fun w2 => w (fun u hu => w2 u (List.mem_cons_of_mem _ hu))))
      rcases List.mem_cons.mp hu with e | e
      · rw [e]; exact t
      · exact w u e
    apply xr_m_areShown_9
    rw [if_neg (by omega), if_neg (show ¬ (1 : Int) = 0 by decide)]
    refine ⟨x4, z_ite (fun q => ⟨x4, go (Or.inl q)⟩) (fun q => ?_)⟩
    refine r_isNum (d := d) h e80.rf (Or.inr ⟨c2, c3⟩) (fun t => ?_) (fun t => ?_)
    · rw [if_neg (show ¬ (1 : Int) = 0 by decide)]
      exact ⟨x4, go (Or.inr t)⟩
    · rw [if_pos rfl]
      refine ⟨x4, r_shown0 L _ c4 (by omega) (h0 (fun w => ?_))⟩
      rcases w x (List.mem_cons_self ..) with e | e
      · exact q e
      · exact t e
end PP
