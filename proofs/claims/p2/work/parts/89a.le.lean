/-! ===== whole zlib streams: what comes behind is further on ===== -/
section YX
variable {I f : Int → Int} {M x w v all : Int} {o : List Int} {n k : Nat} {S1 S2 S0 : Int → Int × Int × Int}
theorem y_s_le {f : Int → Int} {n : Nat} {I : Int → Int} {M : Int} : ∀ (k : Nat) (c s l x v x' : Int), y_s f n I M k c s l x = (0, v, x') → x < x' := by
  intro k
  induction k with
  | zero =>
    intro c s l x v x' h
    have h1 : (1 : Int) = 0 := congrArg Prod.fst h
    exact absurd h1 (by decide)
  | succ k ih =>
    intro c s l x v x' h
    unfold y_s at h
    split at h
    · split at h
      · have e : x + 1 = x' := congrArg (fun p => p.2.2) h
        omega
      · have := ih _ _ _ _ _ _ h
        omega
    · have h1 : (1 : Int) = 0 := congrArg Prod.fst h
      exact absurd h1 (by decide)
theorem y_S_le (x : Int) (h : (y_S f n I M x).1 ≠ 1) : x < (y_S f n I M x).2.2 := by
  have h2 : (y_S f n I M x).1 = 0 := by
    have := y_s_r (f := f) (I := I) (n := n) (M := M) 15 0 0 1 x
    unfold y_S at h ⊢
    omega
  exact y_s_le 15 0 0 1 x (y_S f n I M x).2.1 (y_S f n I M x).2.2 (Prod.ext h2 rfl)
theorem y_row_le (hS : ∀ x, (S2 x).1 ≠ 1 → x < (S2 x).2.2) : ∀ r, y_row I M S2 v x o = r → r.1 ≠ 1 → x ≤ r.2.1 := by
  intro r h hr
  unfold y_row at h
  split at h
  · subst h; exact absurd rfl hr
  · split at h
    · subst h; exact absurd rfl hr
    · next z =>
      split at h
      · subst h; exact absurd rfl hr
      · split at h
        · subst h; exact absurd rfl hr
        · split at h
          · subst h; exact absurd rfl hr
          · split at h
            · subst h; exact absurd rfl hr
            · subst h
              have := hS _ z
              show x ≤ (S2 (x + y_lx v)).2.2 + (y_dx (S2 (x + y_lx v)).2.1 : Int)
              omega
theorem y_cod_le (h1 : ∀ x, (S1 x).1 ≠ 1 → x < (S1 x).2.2) (h2 : ∀ x, (S2 x).1 ≠ 1 → x < (S2 x).2.2) : ∀ (k : Nat) (x : Int) (o : List Int) (r : Int × Int × List Int), y_cod I M S1 S2 k x o = r → r.1 ≠ 1 → x ≤ r.2.1 := by
  intro k
  induction k with
  | zero =>
    intro x o r h hr
    subst h
    exact absurd rfl hr
  | succ k ih =>
    intro x o r h hr
    by_cases z : (S1 x).1 = 1
    · rw [cod_f z] at h
      subst h
      exact absurd rfl hr
    · have h1x := h1 x z
      by_cases z2 : (S1 x).2.1 = 256
      · rw [cod_e z z2] at h
        subst h
        show x ≤ (S1 x).2.2
        omega
      · by_cases z3 : (S1 x).2.1 < 256
        · by_cases z4 : y_fl o
          · rw [cod_w0 z z3 z4] at h
            subst h
            exact absurd rfl hr
          · rw [cod_w z z3 z4] at h
            have := ih _ _ r h hr
            omega
        · by_cases z4 : 285 < (S1 x).2.1
          · rw [cod_b z z4] at h
            subst h
            exact absurd rfl hr
          · by_cases z5 : (y_row I M S2 ((S1 x).2.1 - 257) (S1 x).2.2 o).1 = 1
            · rw [cod_r1 z (by omega) (by omega) z5] at h
              subst h
              exact absurd rfl hr
            · rw [cod_r0 z (by omega) (by omega) z5] at h
              have := ih _ _ r h hr
              have := y_row_le (I := I) (M := M) (v := (S1 x).2.1 - 257) (x := (S1 x).2.2) (o := o) h2 _ rfl z5
              omega
theorem y_sto_le : ∀ (k : Nat) (x : Int) (o : List Int) (r : Int × Int × List Int), y_sto I M k x o = r → x ≤ r.2.1 := by
  intro k
  induction k with
  | zero =>
    intro x o r h
    subst h
    exact Int.le_refl _
  | succ k ih =>
    intro x o r h
    by_cases z : M < x + 8
    · rw [sto_0 z] at h
      subst h
      exact Int.le_refl _
    · by_cases z2 : y_fl o
      · rw [sto_1 z z2] at h
        subst h
        exact Int.le_refl _
      · rw [sto_s z z2] at h
        have := ih _ _ r h
        omega
theorem y_str_le : ∀ (r : Int × Int × List Int), y_str I M x o = r → r.1 ≠ 1 → x ≤ r.2.1 := by
  intro r h hr
  unfold y_str at h
  split at h
  · subst h; exact absurd rfl hr
  · split at h
    · subst h; exact absurd rfl hr
    · have := y_sto_le _ _ _ r h
      unfold y_al at this
      omega
theorem y_rs_le (h0 : ∀ x, (S0 x).1 ≠ 1 → x < (S0 x).2.2) : ∀ (k : Nat) (at' x : Int) (g : Int → Int), x ≤ (y_rs I M S0 all k at' x g).2.1 := by
  intro k
  induction k with
  | zero => intro at' x g; exact Int.le_refl _
  | succ k ih =>
    intro at' x g
    unfold y_rs
    split
    · split
      · exact Int.le_refl _
      · next z =>
        have hz := h0 x z
        split
        · have := ih (at' + 1) (S0 x).2.2 (y_fi g at' 1 (S0 x).2.1)
          omega
        · split
          · exact Int.le_refl _
          · split
            · exact Int.le_refl _
            · split
              · exact Int.le_refl _
              · have := ih (at' + (y_ad (S0 x).2.1 + y_V I (S0 x).2.2 (y_nb (S0 x).2.1))) ((S0 x).2.2 + y_nb (S0 x).2.1) (y_fi g at' (y_ad (S0 x).2.1 + y_V I (S0 x).2.2 (y_nb (S0 x).2.1)) (if (S0 x).2.1 = 16 then g (at' - 1) else 0))
                omega
    · exact Int.le_refl _
theorem y_rsx_le : x + 14 ≤ (y_rsx I M x).2.1 := by
  have h1 : x + 14 + 3 * y_many I x ≤ (y_rsx I M x).2.1 := y_rs_le (fun x h => y_S_le x h) _ _ _ _
  have := y_V_r I (x + 10) 4
  unfold y_many at h1
  omega
theorem y_bk_le : ∀ (r : Int × Int × List Int), y_bk I M w x o = r → r.1 ≠ 1 → x ≤ r.2.1 := by
  intro r h hr
  by_cases w0 : w = 0
  · rw [w0, bk_0] at h
    exact y_str_le r h hr
  · by_cases w1 : w = 1
    · rw [w1, bk_1] at h
      exact y_cod_le (fun x h => y_S_le x h) (fun x h => y_S_le x h) _ _ _ r h hr
    · by_cases w2 : w = 2
      · by_cases z : y_dok I M x
        · rw [w2, bk_2 z] at h
          have := y_cod_le (fun x h => y_S_le x h) (fun x h => y_S_le x h) _ _ _ r h hr
          have := y_rsx_le (I := I) (M := M) (x := x)
          omega
        · rw [w2, bk_2n z] at h
          subst h
          exact absurd rfl hr
      · have e : y_bk I M w x o = (1, x, o) := (if_neg w0).trans ((if_neg w1).trans (if_neg w2))
        rw [e] at h
        subst h
        exact absurd rfl hr
/-- longs' bits -/
theorem w_land_255 (a : Int) : w_land a 255 = a % 256 := by
  unfold w_land
  rw [l_int, Int64.toBitVec_and, BitVec.toNat_and, l_nat, l_nat]
  have e1 : ((255 : Int) % 18446744073709551616).toNat = 2 ^ 8 - 1 := by decide
  rw [e1, Nat.and_two_pow_sub_one_eq_mod]
  have p8 : (2 : Nat) ^ 8 = 256 := rfl
  rw [p8]
  have e2 : (((a % 18446744073709551616).toNat % 256 : Nat) : Int) = a % 256 := by
    rw [Int.natCast_emod, Int.toNat_of_nonneg (Int.emod_nonneg _ (by omega))]
    show a % 18446744073709551616 % 256 = a % 256
    omega
  rw [e2]
  exact w_64_id (by omega) (by omega)
theorem y_lor4 {a b c d : Int} (ha : 0 ≤ a ∧ a < 256) (hb : 0 ≤ b ∧ b < 256) (hc : 0 ≤ c ∧ c < 256) (hd : 0 ≤ d ∧ d < 256) : w_lor (w_lor (w_lor (w_lshl a 24) (w_32 (b * 65536))) (w_32 (c * 256))) d = a * 16777216 + b * 65536 + c * 256 + d := by
  have e24 : ((2 ^ 24 : Nat) : Int) = 16777216 := rfl
  have e16 : ((2 ^ 16 : Nat) : Int) = 65536 := rfl
  have e8 : ((2 ^ 8 : Nat) : Int) = 256 := rfl
  have s1 : w_lshl a 24 = a * ((2 ^ 24 : Nat) : Int) := by
    rw [w_lshl_v (by decide) (by decide)]
    show w_64 (a * ((2 ^ 24 : Nat) : Int)) = _
    exact w_64_id (by omega) (by omega)
  rw [w_32_id (x := b * 65536) (by omega) (by omega), w_32_id (x := c * 256) (by omega) (by omega), s1]
  rw [w_lor_apart 24 (by decide) ha.1 (by omega) (by omega) (by omega), w_64_id (by omega) (by omega)]
  have s2 : a * ((2 ^ 24 : Nat) : Int) + b * 65536 = (a * 256 + b) * ((2 ^ 16 : Nat) : Int) := by omega
  rw [s2, w_lor_apart 16 (by decide) (by omega) (by omega) (by omega) (by omega), w_64_id (by omega) (by omega)]
  have s3 : (a * 256 + b) * ((2 ^ 16 : Nat) : Int) + c * 256 = ((a * 256 + b) * 256 + c) * ((2 ^ 8 : Nat) : Int) := by omega
  rw [s3, w_lor_apart 8 (by decide) (by omega) (by omega) (by omega) (by omega), w_64_id (by omega) (by omega)]
  omega
theorem y_and32 {v : Int} (h0 : 0 ≤ v) (h1 : v < 256) : w_and v 32 = 0 ↔ v / 32 % 2 = 0 := by
  have key : ∀ v : Fin 256, w_and (v.val : Int) 32 = 0 ↔ (v.val : Int) / 32 % 2 = 0 := by decide +kernel
  have := key ⟨v.toNat, by omega⟩
  rw [show (((⟨v.toNat, by omega⟩ : Fin 256).val : Nat) : Int) = v by show ((v.toNat : Nat) : Int) = v; omega] at this
  exact this
end YX
