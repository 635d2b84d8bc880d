/-! ===== the painter: six operands become a matrix ===== -/
noncomputable def p_six (m : w_M) (a e : Int) (F : Int → Int) : w_M := fun i j => if i = a ∧ 0 ≤ j ∧ j < e then F j else m i j
section PX
variable {d : Nat} {g : s_g} {m n : w_M} {Q : Int → w_M → Prop} {F : Int → Int} {a e i j : Int}
theorem p_six_o (h : i ≠ a) : p_six m a e F i j = m i j := if_neg (fun u => h u.1)
theorem p_six_v (h0 : 0 ≤ j) (h1 : j < e) : p_six m a e F a j = F j := if_pos ⟨rfl, h0, h1⟩
theorem p_six_0 : p_six m a 0 F = m := funext (fun i => funext (fun j => if_neg (fun u => by omega)))
theorem p_six_s (h0 : 0 ≤ e) : w_up (p_six m a e F) a e (F e) = p_six m a (e + 1) F := funext (fun i => funext (fun j => by
  by_cases q : i = a ∧ j = e
  · rw [q.1, q.2, w_up_eq, p_six_v h0 (by omega)]
  · have : w_up (p_six m a e F) a e (F e) i j = p_six m a e F i j := if_neg q
    rw [this]
    unfold p_six
    by_cases z : i = a ∧ 0 ≤ j ∧ j < e
    · rw [if_pos z, if_pos ⟨z.1, z.2.1, by omega⟩]
    · rw [if_neg z, if_neg (fun u => z ⟨u.1, u.2.1, by
        have := u.2.2
        by_cases w : j = e
        · exact absurd ⟨u.1, w⟩ q
        · omega⟩)]))
/-- the units of the operands -/
noncomputable def p_uo (n : w_M) (k : Int) : Int := f_m_unitsOf n (n 473 k)
theorem c_gvo (h : o_I g m n) (hO : p_O g m n) (hn : p_num n 6) (hQ : Q 0 (p_six m 412 6 (p_uo n))) : xc_pa_giveOperands (d + 4) m Q := by
  obtain ⟨n6, nn⟩ := hn
  have key : ∀ (K : Nat) (i : Int), i + K = 6 → 0 ≤ i → xp_pa_giveOperands_2 (d + 3) i (p_six m 412 i (p_uo n)) Q := by
    intro K
    induction K with
    | zero =>
      intro i hi i0
      have : i = 6 := by omega
      subst this
      apply xr_pa_giveOperands_2
      rw [if_neg (by decide)]
      exact hQ
    | succ K ih =>
      intro i hi i0
      have i1 : i < n 428 94 := by omega
      obtain ⟨o1, o2, o3⟩ := hO.2.2 i i0 i1
      have t := nn i i0 i1
      have h2 : o_I g (p_six m 412 i (p_uo n)) n := h.fr (fun i j _ w _ => p_six_o (by omega)) (p_six_o (by decide)) (p_six_o (by decide)) (fun _ _ _ _ => rfl) (fun _ _ => rfl)
      have hO2 : p_O g (p_six m 412 i (p_uo n)) n := by
        refine ⟨by rw [p_six_o (by decide)]; exact hO.1, hO.2.1, fun j j0 j1 => ?_⟩
        rw [p_six_o (by decide)]
        exact hO.2.2 j j0 j1
      apply xr_pa_giveOperands_2
      rw [if_pos (by omega), w_32_id (x := i + 1) (by omega) (by omega)]
      refine sp_pa_operand (d := d + 2) ?_
      rw [hO2.at i0 i1, ← o_upn (g := g) o2]
      refine sp_st_units (d := d + 1) ?_
      rw [(a_units h2 o3 t).1]
      refine ⟨by omega, ?_⟩
      have := p_six_s (m := m) (a := 412) (F := p_uo n) i0
      show xp_pa_giveOperands_2 (d + 3) (i + 1) (w_up (p_six m 412 i (p_uo n)) 412 i (p_uo n i)) Q
      rw [this]
      exact ih (i + 1) (by omega) (by omega)
  apply xr_pa_giveOperands
  have := key 6 0 (by decide) (by decide)
  rw [p_six_0] at this
  exact this
theorem r_ops (h : o_I g m n) (hO : p_O g m n) (hn : p_num n 6) (ha : p_rm a) (hQ : Q 0 (p_six n a 6 (p_uo n))) : xc_m_operandsTo (d + 2) a n Q := by
  obtain ⟨n6, nn⟩ := hn
  obtain ⟨a1, a2, a3, a4, a5⟩ := p_rH ha
  have ar : 474 ≤ a ∧ a ≤ 477 := by rcases ha with e | e | e | e <;> omega
  have bd := h.bd
  have key : ∀ (K : Nat) (i : Int), i + K = 6 → 0 ≤ i → xp_m_operandsTo_2 (d + 1) a i (p_six n a i (p_uo n)) Q := by
    intro K
    induction K with
    | zero =>
      intro i hi i0
      have : i = 6 := by omega
      subst this
      apply xr_m_operandsTo_2
      rw [if_neg (by decide)]
      exact hQ
    | succ K ih =>
      intro i hi i0
      have i1 : i < n 428 94 := by omega
      obtain ⟨o1, o2, o3⟩ := hO.2.2 i i0 i1
      apply xr_m_operandsTo_2
      rw [if_pos (by omega), w_32_id (x := i + 1) (by omega) (by omega), p_six_o (i := 473) (by omega)]
      refine ⟨by omega, ?_⟩
      have ku : k_m_unitsOf (p_six n a i (p_uo n)) (n 473 i) := by
        unfold k_m_unitsOf
        exact ⟨⟨o2, by omega⟩, o2, by omega⟩
      refine sp_m_unitsOf (d := d) ku ?_
      have eu : f_m_unitsOf (p_six n a i (p_uo n)) (n 473 i) = p_uo n i := by
        unfold p_uo f_m_unitsOf
        rw [p_six_o (i := 432) (by omega), p_six_o (i := 433) (by omega)]
      rw [eu]
      refine ⟨a1, a2, by omega, ?_⟩
      rw [p_six_s i0]
      exact ih (i + 1) (by omega) (by omega)
  apply xr_m_operandsTo
  have := key 6 0 (by decide) (by decide)
  rw [p_six_0] at this
  exact this
end PX
