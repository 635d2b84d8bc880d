/-! ===== the painter: the reference looks a font's widths through ===== -/
section PG
variable {d : Nat} {g : s_g} {m n : w_M} {Q : Int → w_M → Prop} {x l4 l5 l7 l8 l9 : Int}
theorem r_434z : ∀ (L : List Int) (x : Int) (n1 : w_M), s_ch n1 (n1 428 15) x L → n1 428 15 ≤ 40000 → xp_m_font_434 d l4 l5 0 l7 l8 l9 (-1) n1 Q → xp_m_font_434 d l4 l5 0 l7 l8 l9 x n1 Q := by
  intro L
  induction L with
  | nil =>
    intro x n1 hc hN hQ
    have : x = -1 := hc
    rw [this]
    exact hQ
  | cons y L ih =>
    intro x n1 hc hN hQ
    obtain ⟨c1, c2, c3, c4⟩ := hc
    subst c1
    apply xr_m_font_434
    rw [if_neg (by omega), if_pos rfl]
    exact ⟨⟨c2, by omega⟩, ih _ n1 c4 hN hQ⟩
theorem r_434 (h : o_I g m n) : ∀ (L : List Int) (x : Int) (n1 : w_M), e80 n n1 → s_ch n (n 428 15) x L → ((∀ u ∈ L, t_nu n (o_re n u)) → ∀ n2, e80 n n2 → xp_m_font_434 (d + 4) l4 l5 1 l7 l8 l9 (-1) n2 Q) → (¬ (∀ u ∈ L, t_nu n (o_re n u)) → ∀ n2, e80 n n2 → xp_m_font_434 (d + 4) l4 l5 0 l7 l8 l9 (-1) n2 Q) →
    xp_m_font_434 (d + 4) l4 l5 1 l7 l8 l9 x n1 Q := by
  have bd := h.bd
  intro L
  induction L with
  | nil =>
    intro x n1 he hc hG hB
    have : x = -1 := hc
    rw [this]
    exact hG (fun u hu => absurd hu (List.not_mem_nil)) n1 he
  | cons y L ih =>
    intro x n1 he hc hG hB
    obtain ⟨c1, c2, c3, c4⟩ := hc
    subst c1
    apply xr_m_font_434
    rw [if_neg (by omega), if_neg (show ¬ (1 : Int) = 0 by decide)]
    refine r_resolve2 (d := d + 1) h he (Or.inr ⟨c2, c3⟩) (fun n2 e2 _ => ?_)
    refine r_isNum (d := d + 3) h e2 (o_re_no h (Or.inr ⟨c2, c3⟩)) (fun t => ?_) (fun t => ?_)
    · rw [if_neg (show ¬ (1 : Int) = 0 by decide)]
      refine ⟨⟨c2, by omega⟩, ?_⟩
      rw [e2 437 x (by omega)]
      refine ih (n 437 x) n2 e2 c4 (fun w => hG (fun u hu => ?_)) (fun w => hB (fun w2 => w (fun u hu => w2 u (List.mem_cons_of_mem _ hu))))
      rcases List.mem_cons.mp hu with q | q
      · rw [q]; exact t
      · exact w u q
    · rw [if_pos rfl]
      refine ⟨⟨c2, by omega⟩, ?_⟩
      have e15 : n2 428 15 = n 428 15 := e2 _ _ (by decide)
      refine r_434z L _ n2 ?_ (by omega) (hB (fun w => t (w x (List.mem_cons_self ..))) n2 e2)
      rw [e15, e2 437 x (by omega)]
      exact c4.fr (Int.le_refl _) (fun u _ => e2 437 u (by omega))
end PG
