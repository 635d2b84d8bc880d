/-! ===== the loader: the same heads ===== -/
section SR2
variable {m n : w_M} {W : Int → Int} {L k : Int}
theorem e_hd_L (hok : v_ok W L) : ¬ e_hd W L L := by
  intro z
  have k1 := e_kw_r (W := W) (L := L) (p := L) hok.1 (Int.le_refl _)
  have r := t_un_reg z.1
  have e : e_p1 W L L = L := by
    show e_kw W L L = L
    omega
  rw [e, hok.2.2 L (Or.inr (Int.le_refl _))] at r
  exact absurd r (by decide)
theorem l_heads (hok : v_ok W L) (hL : L ≤ 8000) (h : e_kn m n k) (hn : n 451 k = 1) : l_hd m W L k ↔ (n 452 k < L ∧ e_hd W L (n 452 k) ∧ e_un W L (e_p1 W L (n 452 k)) = k ∧ e_un W L (e_p2 W L (n 452 k)) = n 453 k) := by
  rcases h with ⟨a, _⟩ | ⟨_, b1, b2, b3, b4, b5, b6, b7⟩
  · omega
  · by_cases q : n 452 k < L
    · have e8 : m 368 k = n 452 k := by omega
      have pl : l_pl m L k = n 452 k := by
        unfold l_pl
        rw [if_neg (by omega)]
        exact e8
      unfold l_hd
      rw [pl, b5]
      by_cases q2 : 2147483647 < n 453 k
      · rw [if_pos q2]
        refine ⟨fun z => ?_, fun z => ?_⟩
        · have := e_un0 z.1.2.1
          have := z.2.2
          omega
        · have := e_un0 z.2.1.2.1
          have := z.2.2.2
          omega
      · rw [if_neg q2]
        exact ⟨fun z => ⟨q, z⟩, fun z => z.2⟩
    · have pl : l_pl m L k = L := by
        unfold l_pl
        by_cases z : m 368 k < 0 ∨ L < m 368 k
        · rw [if_pos z]
        · rw [if_neg z]; omega
      unfold l_hd
      rw [pl]
      exact ⟨fun z => absurd z.1 (e_hd_L hok), fun z => absurd z.1 q⟩
end SR2
