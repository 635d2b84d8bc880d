/-! ===== the painter: thousandths ===== -/
/-- a thousandth of a number times the size, rounded -/
def p_th (v : Int) : Int := (v + 32768000) / 65536000
section PT
variable {d : Nat} {m n : w_M} {Q : Int → w_M → Prop} {a b v : Int}
theorem p_lx (x y : Int64) : (x ^^^ y).toInt < 0 ↔ ((x.toInt < 0) ↔ ¬ (y.toInt < 0)) := by
  have h := BitVec.msb_xor (x := x.toBitVec) (y := y.toBitVec)
  rw [BitVec.msb_eq_toInt, BitVec.msb_eq_toInt, BitVec.msb_eq_toInt] at h
  show (x.toBitVec ^^^ y.toBitVec).toInt < 0 ↔ ((x.toBitVec.toInt < 0) ↔ ¬ (y.toBitVec.toInt < 0))
  generalize (x.toBitVec ^^^ y.toBitVec).toInt = A at h ⊢
  generalize x.toBitVec.toInt = B at h ⊢
  generalize y.toBitVec.toInt = C at h ⊢
  by_cases a : A < 0 <;> by_cases b : B < 0 <;> by_cases c : C < 0 <;> simp [a, b, c] at h ⊢
theorem p_xn (ha : -9223372036854775808 ≤ a ∧ a < 9223372036854775808) (hb : 0 < b ∧ b < 9223372036854775808) : w_lxor a b < 0 ↔ a < 0 := by
  unfold w_lxor
  rw [p_lx, w_l_int, w_l_int, w_64_id ha.1 ha.2, w_64_id (by omega) hb.2]
  omega
theorem p_td (a : Int) : (0 ≤ a ∧ a.tdiv 65536000 = a / 65536000) ∨ (a < 0 ∧ a.tdiv 65536000 = -((-a) / 65536000)) := by
  by_cases q : 0 ≤ a
  · exact Or.inl ⟨q, Int.tdiv_eq_ediv_of_nonneg q⟩
  · have t : (-(-a)).tdiv 65536000 = -((-a).tdiv 65536000) := Int.neg_tdiv ..
    rw [Int.neg_neg] at t
    exact Or.inr ⟨by omega, by rw [t, Int.tdiv_eq_ediv_of_nonneg (by omega)]⟩
/-- floorDiv by a positive number -/
theorem sp_floor (ha : -4611686018500000000 ≤ a ∧ a ≤ 4611686018500000000) (h : Q (a / 65536000) m) : xc_jm_floorDiv sC (d + 1) a 65536000 m Q := by
  apply xr_jm_floorDiv
  refine ⟨by decide, ?_⟩
  have x := p_xn (a := a) (b := 65536000) (by omega) (by omega)
  have t := p_td a
  have e : w_ldiv a 65536000 = a.tdiv 65536000 := by
    rw [w_ldiv_v ⟨by omega, by omega⟩ ⟨by omega, by omega⟩, w_64_id (by omega) (by omega)]
  rw [e]
  refine z_ite (fun q => ?_) (fun q => ?_)
  · have a0 := x.mp q
    rw [w_64_id (x := Int.tdiv a 65536000 * 65536000) (by omega) (by omega), w_64_id (x := Int.tdiv a 65536000 - 1) (by omega) (by omega)]
    refine z_ite (fun q2 => ?_) (fun q2 => ?_)
    · rw [show Int.tdiv a 65536000 = a / 65536000 by omega]; exact h
    · rw [show Int.tdiv a 65536000 - 1 = a / 65536000 by omega]; exact h
  · have a0 : ¬ a < 0 := fun u => q (x.mpr u)
    rw [show Int.tdiv a 65536000 = a / 65536000 by omega]; exact h
theorem p_th_m (hv : -4611686018427387904 ≤ v ∧ v ≤ 4611686018427387904) : f_m_thousandth n v = p_th v := by
  unfold f_m_thousandth p_th
  have t1 := p_td (v + 32768000)
  have t2 := p_td (-(v + 32768000) + 65535999)
  rw [w_64_id (x := v + 32768000) (by omega) (by omega)]
  by_cases q : v + 32768000 < 0
  · rw [if_pos q, w_64_id (x := -(v + 32768000)) (by omega) (by omega), w_64_id (x := -(v + 32768000) + 65535999) (by omega) (by omega), w_64_id (by omega) (by omega)]
    omega
  · rw [if_neg q]
    omega
/-- the class: a thousandth of a number times the size -/
theorem sp_scaled (h8 : p_32 (m 408 8)) (hv : p_32 v ∨ p_32 (-v)) (h : Q (p_th (v * m 408 8)) m) : xc_pa_scaled (d + 2) v m Q := by
  have b : -4611686018427387904 ≤ v * m 408 8 ∧ v * m 408 8 ≤ 4611686018427387904 := by
    rcases hv with z | z
    · exact p_mulb z h8
    · have := p_mulb z h8
      rw [Int.neg_mul] at this
      omega
  apply xr_pa_scaled
  rw [w_64_id (x := v * m 408 8) (by omega) (by omega), w_64_id (by omega) (by omega)]
  exact sp_floor (d := d) (by omega) h
end PT
