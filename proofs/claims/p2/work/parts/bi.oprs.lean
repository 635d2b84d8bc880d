/-! ===== the painter: operands ===== -/
/-- the operands that wait, alike -/
def p_O (g : s_g) (m n : w_M) : Prop := m 404 14 = n 428 94 ∧ (0 ≤ n 428 94 ∧ n 428 94 ≤ 40) ∧ ∀ i, 0 ≤ i → i < n 428 94 → m 415 i = g.1 (n 473 i) ∧ 0 ≤ n 473 i ∧ n 473 i < n 428 15
/-- so many, and numbers all -/
def p_num (n : w_M) (k : Int) : Prop := n 428 94 = k ∧ ∀ i, 0 ≤ i → i < n 428 94 → t_nu n (n 473 i)
section PO
variable {d : Nat} {g : s_g} {m n : w_M} {Q : Int → w_M → Prop} {k i : Int}
theorem p_O.at (h : p_O g m n) (i0 : 0 ≤ i) (i1 : i < n 428 94) : f_pa_operand m i = g.1 (n 473 i) := by
  obtain ⟨h1, h2, h3⟩ := h
  unfold f_pa_operand
  rw [if_neg (by omega), if_pos (by omega), if_pos (by omega)]
  exact (h3 i i0 i1).1
theorem p_O.no (h : p_O g m n) (i1 : n 428 94 ≤ i) : f_pa_operand m i = -1 := by
  obtain ⟨h1, h2, h3⟩ := h
  unfold f_pa_operand
  rw [if_neg (by omega), if_neg (by omega)]
theorem c_areNum (h : o_I g m n) (hO : p_O g m n) (H1 : p_num n k → Q 1 m) (H0 : ¬ p_num n k → Q 0 m) : xc_pa_areNumbers (d + 4) k m Q := by
  have key : ∀ (K : Nat) (i : Int), i + K = n 428 94 → 0 ≤ i → (∀ j, 0 ≤ j → j < i → t_nu n (n 473 j)) → xp_pa_areNumbers_2 (d + 3) k i m Q := by
    intro K
    induction K with
    | zero =>
      intro i hi i0 hj
      apply xr_pa_areNumbers_2
      rw [hO.1, if_neg (by omega)]
      refine z_ite (fun q => H1 ⟨q, fun j j0 j1 => hj j j0 (by omega)⟩) (fun q => H0 (fun u => q u.1))
    | succ K ih =>
      intro i hi i0 hj
      have i1 : i < n 428 94 := by omega
      obtain ⟨o1, o2, o3⟩ := hO.2.2 i i0 i1
      have b := hO.2.1
      apply xr_pa_areNumbers_2
      rw [hO.1, if_pos i1, w_32_id (x := i + 1) (by omega) (by omega)]
      refine sp_pa_operand (d := d + 2) ?_
      rw [hO.at i0 i1, ← o_upn (g := g) o2]
      refine c_isNum (d := d + 1) h (Or.inr ⟨o2, o3⟩) (fun t => ?_) (fun t => ?_)
      · rw [if_neg (show ¬ (1 : Int) = 0 by decide)]
        refine ih (i + 1) (by omega) (by omega) (fun j j0 j1 => ?_)
        by_cases z : j = i
        · rw [z]; exact t
        · exact hj j j0 (by omega)
      · rw [if_pos rfl]
        exact H0 (fun u => t (u.2 i i0 i1))
  apply xr_pa_areNumbers
  exact key (n 428 94).toNat 0 (by have := hO.2.1; omega) (Int.le_refl _) (fun j j0 j1 => by omega)
theorem r_areNum (h : o_I g m n) (hO : p_O g m n) (H1 : p_num n k → Q 1 n) (H0 : ¬ p_num n k → Q 0 n) : xc_m_areNumbers (d + 2) k n Q := by
  have b := hO.2.1
  have bad : ¬ p_num n k → ∀ i, xp_m_areNumbers_16 (d + 1) 0 i n Q := fun u i => by
    apply xr_m_areNumbers_16
    refine z_ite (fun _ => ?_) (fun _ => ⟨Or.inl rfl, H0 u⟩)
    rw [if_pos rfl]
    exact ⟨Or.inl rfl, H0 u⟩
  have key : n 428 94 = k → ∀ (K : Nat) (i : Int), i + K = n 428 94 → 0 ≤ i → (∀ j, 0 ≤ j → j < i → t_nu n (n 473 j)) → xp_m_areNumbers_16 (d + 1) 1 i n Q := by
    intro hk K
    induction K with
    | zero =>
      intro i hi i0 hj
      apply xr_m_areNumbers_16
      rw [if_neg (by omega)]
      exact ⟨Or.inr rfl, H1 ⟨hk, fun j j0 j1 => hj j j0 (by omega)⟩⟩
    | succ K ih =>
      intro i hi i0 hj
      have i1 : i < n 428 94 := by omega
      obtain ⟨o1, o2, o3⟩ := hO.2.2 i i0 i1
      apply xr_m_areNumbers_16
      rw [if_pos i1, if_neg (show ¬ (1 : Int) = 0 by decide), w_32_id (x := i + 1) (by omega) (by omega)]
      refine ⟨by omega, r_isNum (d := d) h e80.rf (Or.inr ⟨o2, o3⟩) (fun t => ?_) (fun t => ?_)⟩
      · refine ih (i + 1) (by omega) (by omega) (fun j j0 j1 => ?_)
        by_cases z : j = i
        · rw [z]; exact t
        · exact hj j j0 (by omega)
      · exact bad (fun u => t (u.2 i i0 i1)) _
  apply xr_m_areNumbers
  refine z_ite (fun q => key q (n 428 94).toNat 0 (by omega) (Int.le_refl _) (fun j j0 j1 => by omega)) (fun q => bad (fun u => q u.1) 0)
end PO
