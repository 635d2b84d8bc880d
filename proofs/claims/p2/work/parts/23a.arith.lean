/-! ===== bits and quotients of numbers ===== -/
theorem i_nat (x : Int) : (Int32.ofInt x).toBitVec.toNat = (x % 4294967296).toNat := BitVec.toNat_ofInt x
theorem l_nat (x : Int) : (Int64.ofInt x).toBitVec.toNat = (x % 18446744073709551616).toNat := BitVec.toNat_ofInt x
theorem i_int (y : Int32) : y.toInt = w_32 y.toBitVec.toNat := BitVec.toInt_eq_toNat_bmod y.toBitVec
theorem l_int (y : Int64) : y.toInt = w_64 y.toBitVec.toNat := BitVec.toInt_eq_toNat_bmod y.toBitVec
theorem w_32_em (x : Int) : w_32 (x % 4294967296) = w_32 x := by unfold w_32; exact Int.emod_bmod x _
theorem w_64_em (x : Int) : w_64 (x % 18446744073709551616) = w_64 x := by unfold w_64; exact Int.emod_bmod x _
theorem w_and_nat (a b : Int) : w_and a b = w_32 (((a % 4294967296).toNat &&& (b % 4294967296).toNat : Nat) : Int) := by
  unfold w_and
  rw [i_int, Int32.toBitVec_and, BitVec.toNat_and, i_nat, i_nat]
theorem w_and_mask (k : Nat) (hk : k ≤ 31) (a : Int) : w_and a ((2 ^ k - 1 : Nat) : Int) = a % ((2 ^ k : Nat) : Int) := by
  have hp : 2 ^ k ≤ 2 ^ 31 := Nat.pow_le_pow_right (by omega) hk
  have hp0 : 0 < 2 ^ k := Nat.pow_pos (by omega)
  have h31 : (2 : Nat) ^ 31 = 2147483648 := rfl
  rw [w_and_nat]
  have e1 : (((2 ^ k - 1 : Nat) : Int) % 4294967296).toNat = 2 ^ k - 1 := by omega
  rw [e1, Nat.and_two_pow_sub_one_eq_mod]
  have e2 : (((a % 4294967296).toNat % 2 ^ k : Nat) : Int) = a % ((2 ^ k : Nat) : Int) := by
    have hd : ((2 ^ k : Nat) : Int) ∣ 4294967296 := by
      have : (2 : Nat) ^ k ∣ 2 ^ 32 := Nat.pow_dvd_pow 2 (by omega)
      have h32 : (2 : Nat) ^ 32 = 4294967296 := rfl
      rw [h32] at this
      exact Int.natCast_dvd_natCast.mpr this
    rw [Int.natCast_emod, Int.toNat_of_nonneg (Int.emod_nonneg _ (by omega)), Int.emod_emod_of_dvd a hd]
  rw [e2]
  have h1 := Int.emod_nonneg a (show ((2 ^ k : Nat) : Int) ≠ 0 by omega)
  have h2 := Int.emod_lt_of_pos a (show (0 : Int) < ((2 ^ k : Nat) : Int) by omega)
  exact w_32_id (by omega) (by omega)
theorem w_and_1 (a : Int) : w_and a 1 = a % 2 := w_and_mask 1 (by omega) a
theorem w_and_3 (a : Int) : w_and a 3 = a % 4 := w_and_mask 2 (by omega) a
theorem w_and_7 (a : Int) : w_and a 7 = a % 8 := w_and_mask 3 (by omega) a
theorem w_and_15 (a : Int) : w_and a 15 = a % 16 := w_and_mask 4 (by omega) a
theorem w_and_31 (a : Int) : w_and a 31 = a % 32 := w_and_mask 5 (by omega) a
theorem w_and_255 (a : Int) : w_and a 255 = a % 256 := w_and_mask 8 (by omega) a
theorem w_and_4095 (a : Int) : w_and a 4095 = a % 4096 := w_and_mask 12 (by omega) a
theorem w_and_65535 (a : Int) : w_and a 65535 = a % 65536 := w_and_mask 16 (by omega) a
theorem w_rem_v {a b : Int} (ha : w_r 0 a) (hb : w_r 0 b) : w_rem a b = a.tmod b := by
  unfold w_rem
  have h1 : (2147483647 : Int) = Int32.maxValue.toInt := rfl
  have h2 : (-2147483648 : Int) = Int32.minValue.toInt := rfl
  have ha1 := ha.1
  have ha2 := ha.2
  have hb1 := hb.1
  have hb2 := hb.2
  rw [← Int32.ofInt_tdiv (by omega) (by omega) (by omega) (by omega), ← Int32.ofInt_mul, ← Int32.ofInt_sub, w_i_int]
  have e : a - a.tdiv b * b = a.tmod b := by
    have := Int.tmod_add_tdiv_mul a b
    omega
  rw [e]
  have h3 := Int.natAbs_tmod a b
  by_cases hz : b = 0
  · subst hz
    rw [Int.tmod_zero]
    exact w_32_id ha1 ha2
  · have h4 : a.natAbs % b.natAbs < b.natAbs := Nat.mod_lt _ (by omega)
    exact w_32_id (by omega) (by omega)
theorem w_rem_p {a b : Int} (ha : 0 ≤ a) (ha2 : a < 2147483648) (hb : 0 < b) (hb2 : b < 2147483648) : w_rem a b = a % b := by
  rw [w_rem_v ⟨by omega, ha2⟩ ⟨by omega, hb2⟩, Int.tmod_eq_emod_of_nonneg ha]
theorem w_div_v {a b : Int} (ha : w_r 0 a) (hb : w_r 0 b) : w_div a b = w_32 (a.tdiv b) := by
  unfold w_div
  have h1 : (2147483647 : Int) = Int32.maxValue.toInt := rfl
  have h2 : (-2147483648 : Int) = Int32.minValue.toInt := rfl
  have ha1 := ha.1
  have ha2 := ha.2
  have hb1 := hb.1
  have hb2 := hb.2
  rw [← Int32.ofInt_tdiv (by omega) (by omega) (by omega) (by omega), w_i_int]
theorem w_div_p {a b : Int} (ha : 0 ≤ a) (ha2 : a < 2147483648) (hb : 0 < b) (hb2 : b < 2147483648) : w_div a b = a / b := by
  rw [w_div_v ⟨by omega, ha2⟩ ⟨by omega, hb2⟩, Int.tdiv_eq_ediv_of_nonneg ha]
  have h1 := Int.ediv_nonneg ha (show 0 ≤ b by omega)
  have h2 := Int.ediv_le_self b ha
  exact w_32_id (by omega) (by omega)
theorem w_lrem_v {a b : Int} (ha : w_r 1 a) (hb : w_r 1 b) : w_lrem a b = a.tmod b := by
  unfold w_lrem
  have h1 : (9223372036854775807 : Int) = Int64.maxValue.toInt := rfl
  have h2 : (-9223372036854775808 : Int) = Int64.minValue.toInt := rfl
  have ha1 := ha.1
  have ha2 := ha.2
  have hb1 := hb.1
  have hb2 := hb.2
  rw [← Int64.ofInt_tdiv (by omega) (by omega) (by omega) (by omega), ← Int64.ofInt_mul, ← Int64.ofInt_sub, w_l_int]
  have e : a - a.tdiv b * b = a.tmod b := by
    have := Int.tmod_add_tdiv_mul a b
    omega
  rw [e]
  have h3 := Int.natAbs_tmod a b
  by_cases hz : b = 0
  · subst hz
    rw [Int.tmod_zero]
    exact w_64_id ha1 ha2
  · have h4 : a.natAbs % b.natAbs < b.natAbs := Nat.mod_lt _ (by omega)
    exact w_64_id (by omega) (by omega)
theorem w_lrem_p {a b : Int} (ha : 0 ≤ a) (ha2 : a < 9223372036854775808) (hb : 0 < b) (hb2 : b < 9223372036854775808) : w_lrem a b = a % b := by
  rw [w_lrem_v ⟨by omega, ha2⟩ ⟨by omega, hb2⟩, Int.tmod_eq_emod_of_nonneg ha]
theorem w_ldiv_v {a b : Int} (ha : w_r 1 a) (hb : w_r 1 b) : w_ldiv a b = w_64 (a.tdiv b) := by
  unfold w_ldiv
  have h1 : (9223372036854775807 : Int) = Int64.maxValue.toInt := rfl
  have h2 : (-9223372036854775808 : Int) = Int64.minValue.toInt := rfl
  have ha1 := ha.1
  have ha2 := ha.2
  have hb1 := hb.1
  have hb2 := hb.2
  rw [← Int64.ofInt_tdiv (by omega) (by omega) (by omega) (by omega), w_l_int]
theorem w_ldiv_p {a b : Int} (ha : 0 ≤ a) (ha2 : a < 9223372036854775808) (hb : 0 < b) (hb2 : b < 9223372036854775808) : w_ldiv a b = a / b := by
  rw [w_ldiv_v ⟨by omega, ha2⟩ ⟨by omega, hb2⟩, Int.tdiv_eq_ediv_of_nonneg ha]
  have h1 := Int.ediv_nonneg ha (show 0 ≤ b by omega)
  have h2 := Int.ediv_le_self b ha
  exact w_64_id (by omega) (by omega)
-- shifts
theorem sh_k : ∀ s : Fin 32, ((Int32.ofInt ((s.val : Nat) : Int) &&& 31).toBitVec.smod 32).toNat = s.val := by decide +kernel
theorem sh_s {s : Int} (h0 : 0 ≤ s) (h1 : s < 32) : ((Int32.ofInt s &&& 31).toBitVec.smod 32).toNat = s.toNat := by
  have := sh_k ⟨s.toNat, by omega⟩
  rw [show ((s.toNat : Nat) : Int) = s by omega] at this
  exact this
theorem w_shl_v {a s : Int} (h0 : 0 ≤ s) (h1 : s < 32) : w_shl a s = w_32 (a * ((2 ^ s.toNat : Nat) : Int)) := by
  unfold w_shl
  rw [i_int, Int32.toBitVec_shiftLeft]
  show w_32 (((Int32.ofInt a).toBitVec <<< ((Int32.ofInt s &&& 31).toBitVec.smod 32)).toNat : Int) = _
  rw [BitVec.shiftLeft_eq', BitVec.toNat_shiftLeft, sh_s h0 h1, i_nat, Nat.shiftLeft_eq]
  rw [Int.natCast_emod]
  show w_32 (_ % 4294967296) = _
  rw [w_32_em, Int.natCast_mul, Int.toNat_of_nonneg (Int.emod_nonneg _ (by omega))]
  unfold w_32
  exact Int.emod_mul_bmod a 4294967296
theorem w_shr_v {a s : Int} (ha : w_r 0 a) (h0 : 0 ≤ s) (h1 : s < 32) : w_shr a s = a / ((2 ^ s.toNat : Nat) : Int) := by
  unfold w_shr
  show ((Int32.ofInt a).toBitVec.sshiftRight' ((Int32.ofInt s &&& 31).toBitVec.smod 32)).toInt = _
  rw [BitVec.toInt_sshiftRight', sh_s h0 h1, Int.shiftRight_eq_div_pow]
  have e : (Int32.ofInt a).toBitVec.toInt = a := w_i_to ha
  rw [e]
theorem w_ushr_v {a s : Int} (h0 : 0 ≤ s) (h1 : s < 32) : w_ushr a s = w_32 ((a % 4294967296) / ((2 ^ s.toNat : Nat) : Int)) := by
  unfold w_ushr
  rw [i_int]
  have hk : ∀ s : Fin 32, (((Int32.ofInt ((s.val : Nat) : Int)).toUInt32 &&& Int32.toUInt32 31) % 32).toNat = s.val := by decide +kernel
  have hs := hk ⟨s.toNat, by omega⟩
  rw [show ((s.toNat : Nat) : Int) = s by omega] at hs
  have e : ((Int32.ofInt a).toUInt32 >>> ((Int32.ofInt s).toUInt32 &&& Int32.toUInt32 31)).toNat = (a % 4294967296).toNat / 2 ^ s.toNat := by
    rw [UInt32.toNat_shiftRight]
    have e2 : (Int32.ofInt a).toUInt32.toNat = (a % 4294967296).toNat := i_nat a
    have e3 : ((Int32.ofInt s).toUInt32 &&& Int32.toUInt32 31).toNat % 32 = s.toNat := by
      rw [UInt32.toNat_mod] at hs
      exact hs
    rw [e2, e3, Nat.shiftRight_eq_div_pow]
  show w_32 (((Int32.ofInt a).toUInt32 >>> ((Int32.ofInt s).toUInt32 &&& Int32.toUInt32 31)).toNat : Int) = _
  rw [e, Int.natCast_ediv, Int.toNat_of_nonneg (Int.emod_nonneg _ (by omega))]
theorem w_or_nat (a b : Int) : w_or a b = w_32 (((a % 4294967296).toNat ||| (b % 4294967296).toNat : Nat) : Int) := by
  unfold w_or
  rw [i_int, Int32.toBitVec_or, BitVec.toNat_or, i_nat, i_nat]
/-- bits that stand apart -/
theorem w_or_apart {a b : Int} (k : Nat) (hk : k ≤ 32) (hb : 0 ≤ b) (hb2 : b < ((2 ^ k : Nat) : Int)) : w_or (w_32 (a * ((2 ^ k : Nat) : Int))) b = w_32 (a * ((2 ^ k : Nat) : Int) + b) := by
  have hp : 2 ^ k ≤ 2 ^ 32 := Nat.pow_le_pow_right (by omega) hk
  have h32 : (2 : Nat) ^ 32 = 4294967296 := rfl
  have hp0 : 0 < 2 ^ k := Nat.pow_pos (by omega)
  rw [w_or_nat]
  have e1 : (w_32 (a * ((2 ^ k : Nat) : Int))) % 4294967296 = (a * ((2 ^ k : Nat) : Int)) % 4294967296 := by unfold w_32; exact Int.bmod_emod
  have e2 : b % 4294967296 = b := Int.emod_eq_of_lt hb (by omega)
  rw [e1, e2]
  have hd : (((2 ^ k : Nat) : Int)) ∣ (a * ((2 ^ k : Nat) : Int)) % 4294967296 := by
    have : (2 : Nat) ^ k ∣ 2 ^ 32 := Nat.pow_dvd_pow 2 hk
    rw [h32] at this
    have h3 : ((2 ^ k : Nat) : Int) ∣ 4294967296 := Int.natCast_dvd_natCast.mpr this
    rw [Int.emod_def]
    exact Int.dvd_sub (Int.dvd_mul_left _ _) (Int.dvd_mul_of_dvd_left h3)
  obtain ⟨q, hq⟩ := hd
  have hq0 : 0 ≤ q := by
    have h4 := Int.emod_nonneg (a * ((2 ^ k : Nat) : Int)) (show (4294967296 : Int) ≠ 0 by omega)
    rw [hq] at h4
    rcases Int.lt_or_le q 0 with h5 | h5
    · have : ((2 ^ k : Nat) : Int) * q < 0 := Int.mul_neg_of_pos_of_neg (by omega) h5
      omega
    · exact h5
  have e3 : ((a * ((2 ^ k : Nat) : Int)) % 4294967296).toNat = q.toNat <<< k := by
    rw [hq, Nat.shiftLeft_eq, Int.toNat_mul (by omega) hq0, Int.toNat_natCast, Nat.mul_comm]
  rw [e3, ← Nat.shiftLeft_add_eq_or_of_lt (by omega), Int.natCast_add, Int.toNat_of_nonneg hb]
  have e4 : ((q.toNat <<< k : Nat) : Int) = (a * ((2 ^ k : Nat) : Int)) % 4294967296 := by
    rw [← e3, Int.toNat_of_nonneg (Int.emod_nonneg _ (by omega))]
  rw [e4]
  unfold w_32
  exact Int.emod_add_bmod _ _
theorem w_or_16 {a b : Int} (hb : 0 ≤ b) (hb2 : b < 65536) : w_or (w_shl a 16) b = w_32 (a * 65536 + b) := by
  rw [w_shl_v (by decide) (by decide)]
  exact w_or_apart 16 (by omega) hb hb2
-- longs
theorem w_lor_nat (a b : Int) : w_lor a b = w_64 (((a % 18446744073709551616).toNat ||| (b % 18446744073709551616).toNat : Nat) : Int) := by
  unfold w_lor
  rw [l_int, Int64.toBitVec_or, BitVec.toNat_or, l_nat, l_nat]
theorem lsh_k : ∀ s : Fin 64, (((Int32.ofInt ((s.val : Nat) : Int)).toInt64 &&& 63).toBitVec.smod 64).toNat = s.val := by decide +kernel
theorem lsh_s {s : Int} (h0 : 0 ≤ s) (h1 : s < 64) : (((Int32.ofInt s).toInt64 &&& 63).toBitVec.smod 64).toNat = s.toNat := by
  have := lsh_k ⟨s.toNat, by omega⟩
  rw [show ((s.toNat : Nat) : Int) = s by omega] at this
  exact this
theorem w_lshl_v {a s : Int} (h0 : 0 ≤ s) (h1 : s < 64) : w_lshl a s = w_64 (a * ((2 ^ s.toNat : Nat) : Int)) := by
  unfold w_lshl
  rw [l_int, Int64.toBitVec_shiftLeft]
  show w_64 (((Int64.ofInt a).toBitVec <<< (((Int32.ofInt s).toInt64 &&& 63).toBitVec.smod 64)).toNat : Int) = _
  rw [BitVec.shiftLeft_eq', BitVec.toNat_shiftLeft, lsh_s h0 h1, l_nat, Nat.shiftLeft_eq]
  rw [Int.natCast_emod]
  show w_64 (_ % 18446744073709551616) = _
  rw [w_64_em, Int.natCast_mul, Int.toNat_of_nonneg (Int.emod_nonneg _ (by omega))]
  unfold w_64
  exact Int.emod_mul_bmod a 18446744073709551616
theorem w_lshr_v {a s : Int} (ha : w_r 1 a) (h0 : 0 ≤ s) (h1 : s < 64) : w_lshr a s = a / ((2 ^ s.toNat : Nat) : Int) := by
  unfold w_lshr
  show ((Int64.ofInt a).toBitVec.sshiftRight' (((Int32.ofInt s).toInt64 &&& 63).toBitVec.smod 64)).toInt = _
  rw [BitVec.toInt_sshiftRight', lsh_s h0 h1, Int.shiftRight_eq_div_pow]
  have e : (Int64.ofInt a).toBitVec.toInt = a := w_l_to ha
  rw [e]
theorem w_lor_apart {a b : Int} (k : Nat) (hk : k ≤ 62) (ha : 0 ≤ a) (ha2 : a * ((2 ^ k : Nat) : Int) < 9223372036854775808) (hb : 0 ≤ b) (hb2 : b < ((2 ^ k : Nat) : Int)) : w_lor (a * ((2 ^ k : Nat) : Int)) b = w_64 (a * ((2 ^ k : Nat) : Int) + b) := by
  have hp : 2 ^ k ≤ 2 ^ 62 := Nat.pow_le_pow_right (by omega) hk
  have h62 : (2 : Nat) ^ 62 = 4611686018427387904 := rfl
  have hp0 : 0 < 2 ^ k := Nat.pow_pos (by omega)
  have h5 : 0 ≤ a * ((2 ^ k : Nat) : Int) := Int.mul_nonneg ha (by omega)
  rw [w_lor_nat, Int.emod_eq_of_lt h5 (by omega), Int.emod_eq_of_lt hb (by omega)]
  have e3 : (a * ((2 ^ k : Nat) : Int)).toNat = a.toNat <<< k := by
    rw [Nat.shiftLeft_eq, Int.toNat_mul ha (by omega), Int.toNat_natCast]
  rw [e3, ← Nat.shiftLeft_add_eq_or_of_lt (by omega), Int.natCast_add, Int.toNat_of_nonneg hb, ← e3, Int.toNat_of_nonneg h5]
theorem w_lor_16 {a b : Int} (ha : 0 ≤ a) (ha2 : a < 65536) (hb : 0 ≤ b) (hb2 : b < 65536) : w_lor (w_lshl a 16) b = a * 65536 + b := by
  rw [w_lshl_v (by decide) (by decide)]
  have e : a * ((2 ^ (16 : Int).toNat : Nat) : Int) = a * 65536 := rfl
  rw [e, w_64_id (by omega) (by omega)]
  have := w_lor_apart (a := a) (b := b) 16 (by omega) ha (by show a * 65536 < _; omega) hb (by show b < 65536; omega)
  have e2 : a * ((2 ^ 16 : Nat) : Int) = a * 65536 := rfl
  rw [e2] at this
  rw [this]
  exact w_64_id (by omega) (by omega)
theorem w_c_ok {a : Int} (h : 0 ≤ a ∧ a < 65536) : narrow .char (.int (Int32.ofInt a)) = .int (Int32.ofInt a) := by
  have e := w_i_to (a := a) ⟨by omega, by omega⟩
  show Value.int _ = Value.int _
  congr 1
  apply Int32.toInt_inj.mp
  have h0 : 0 ≤ Int32.ofInt a := Int32.le_iff_toInt_le.mpr (by rw [e]; exact h.1)
  have h1 : (Int32.ofInt a).toUInt32.toNat = a.toNat := by
    rw [Int32.toNat_toUInt32_of_le h0]
    show (Int32.ofInt a).toInt.toNat = _
    rw [e]
  have h2 : ((Int32.ofInt a).toUInt32 % 65536).toNat = a.toNat := by
    rw [UInt32.toNat_mod, h1]
    exact Nat.mod_eq_of_lt (by show a.toNat < 65536; omega)
  have h3 : (Int32.ofInt a).toUInt32 % 65536 = (Int32.ofInt a).toUInt32 := UInt32.toNat.inj (h2.trans h1.symm)
  show ((Int32.ofInt a).toUInt32 % 65536).toInt32.toInt = _
  rw [h3]
  rfl
theorem w_c16_v {a : Int} (h0 : 0 ≤ a) (h1 : a < 65536) : w_c16 a = a := by
  unfold w_c16
  have := w_c_ok ⟨h0, h1⟩
  have e : ((Int32.ofInt a).toUInt32 % 65536).toInt32 = Int32.ofInt a := by
    have h2 : Value.int ((Int32.ofInt a).toUInt32 % 65536).toInt32 = Value.int (Int32.ofInt a) := this
    exact Value.int.inj h2
  rw [e]
  exact w_i_to ⟨by omega, by omega⟩
-- lcmp and the branch behind it
theorem w_cmp_lt {a b : Int} (ha : w_r 1 a) (hb : w_r 1 b) : w_cmp a b < 0 ↔ a < b := by
  rw [w_cmp_v ha hb]
  split
  · omega
  · split <;> omega
theorem w_cmp_gt {a b : Int} (ha : w_r 1 a) (hb : w_r 1 b) : 0 < w_cmp a b ↔ b < a := by
  rw [w_cmp_v ha hb]
  split
  · omega
  · split <;> omega
theorem w_cmp_eq {a b : Int} (ha : w_r 1 a) (hb : w_r 1 b) : w_cmp a b = 0 ↔ a = b := by
  rw [w_cmp_v ha hb]
  split
  · omega
  · split <;> omega
-- instructions with a written number beside them; lcmp with its branch
section WK
variable {G : w_G} {d t pc nx x y z p2 x1 y1 z1 : Nat} {M : ex_M} {m : w_M} {lv : List (Option w_V)} {st : List w_V} {Q : Int → w_M → Prop} {a b c : Int}
theorem w_iandm (k : Nat) (hc : ex_cd M.2.2.2.2 pc = some (.iand, x, y, z, nx)) (hk : k ≤ 31) (hb : b = ((2 ^ k - 1 : Nat) : Int)) (hm : c = ((2 ^ k : Nat) : Int)) (h : w_W G d M t nx lv ((0, a % c) :: st) m Q) : w_W G d M t pc lv ((0, b) :: (0, a) :: st) m Q := by
  refine w_iand hc ?_
  rw [hb, w_and_mask k hk, ← hm]
  exact h
theorem w_ishlk (hc : ex_cd M.2.2.2.2 pc = some (.ishl, x, y, z, nx)) (h0 : 0 ≤ b) (h1 : b < 32) (hm : c = ((2 ^ b.toNat : Nat) : Int)) (h : w_W G d M t nx lv ((0, w_32 (a * c)) :: st) m Q) : w_W G d M t pc lv ((0, b) :: (0, a) :: st) m Q := by
  refine w_ishl hc ?_
  rw [w_shl_v h0 h1, ← hm]
  exact h
theorem w_ishrk (hc : ex_cd M.2.2.2.2 pc = some (.ishr, x, y, z, nx)) (h0 : 0 ≤ b) (h1 : b < 32) (hm : c = ((2 ^ b.toNat : Nat) : Int)) (h : w_W G d M t nx lv ((0, a / c) :: st) m Q) : w_W G d M t pc lv ((0, b) :: (0, a) :: st) m Q := by
  intro k1 k2 k3
  refine w_ishr hc ?_ k1 k2 k3
  rw [w_shr_v (w_ns1 (w_nst k3)) h0 h1, ← hm]
  exact h
theorem w_iremk (hc : ex_cd M.2.2.2.2 pc = some (.irem, x, y, z, nx)) (hb : b ≠ 0) (h : w_W G d M t nx lv ((0, Int.tmod a b) :: st) m Q) : w_W G d M t pc lv ((0, b) :: (0, a) :: st) m Q := by
  intro k1 k2 k3
  refine w_irem hc hb ?_ k1 k2 k3
  rw [w_rem_v (w_ns1 (w_nst k3)) (w_ns1 k3)]
  exact h
theorem w_idivk (hc : ex_cd M.2.2.2.2 pc = some (.idiv, x, y, z, nx)) (hb : 2 ≤ b) (h : w_W G d M t nx lv ((0, Int.tdiv a b) :: st) m Q) : w_W G d M t pc lv ((0, b) :: (0, a) :: st) m Q := by
  intro k1 k2 k3
  refine w_idiv hc (by omega) ?_ k1 k2 k3
  have ha : w_r 0 a := w_ns1 (w_nst k3)
  have hb0 : w_r 0 b := w_ns1 k3
  rw [w_div_v ha hb0]
  have h1 : (Int.tdiv a b).natAbs ≤ a.natAbs := by rw [Int.natAbs_tdiv]; exact Nat.div_le_self _ _
  have h2 : (Int.tdiv a b).natAbs ≤ a.natAbs / 2 := by rw [Int.natAbs_tdiv]; exact Nat.div_le_div_left (by omega) (by omega)
  have ha1 := ha.1
  have ha2 := ha.2
  rw [w_32_id (by omega) (by omega)]
  exact h
theorem w_lremk (hc : ex_cd M.2.2.2.2 pc = some (.lrem, x, y, z, nx)) (hb : b ≠ 0) (h : w_W G d M t nx lv ((1, Int.tmod a b) :: st) m Q) : w_W G d M t pc lv ((1, b) :: (1, a) :: st) m Q := by
  intro k1 k2 k3
  refine w_lrem' hc hb ?_ k1 k2 k3
  rw [w_lrem_v (w_ns1 (w_nst k3)) (w_ns1 k3)]
  exact h
theorem w_ldivk (hc : ex_cd M.2.2.2.2 pc = some (.ldiv, x, y, z, nx)) (hb : 2 ≤ b) (h : w_W G d M t nx lv ((1, Int.tdiv a b) :: st) m Q) : w_W G d M t pc lv ((1, b) :: (1, a) :: st) m Q := by
  intro k1 k2 k3
  refine w_ldiv' hc (by omega) ?_ k1 k2 k3
  have ha : w_r 1 a := w_ns1 (w_nst k3)
  have hb0 : w_r 1 b := w_ns1 k3
  rw [w_ldiv_v ha hb0]
  have h2 : (Int.tdiv a b).natAbs ≤ a.natAbs / 2 := by rw [Int.natAbs_tdiv]; exact Nat.div_le_div_left (by omega) (by omega)
  have ha1 := ha.1
  have ha2 := ha.2
  rw [w_64_id (by omega) (by omega)]
  exact h
theorem w_lshrk (hc : ex_cd M.2.2.2.2 pc = some (.lshr, x, y, z, nx)) (h0 : 0 ≤ b) (h1 : b < 64) (hm : c = ((2 ^ b.toNat : Nat) : Int)) (h : w_W G d M t nx lv ((1, a / c) :: st) m Q) : w_W G d M t pc lv ((0, b) :: (1, a) :: st) m Q := by
  intro k1 k2 k3
  refine w_lshr' hc ?_ k1 k2 k3
  rw [w_lshr_v (w_ns1 (w_nst k3)) h0 h1, ← hm]
  exact h
theorem w_lclt {off : Int} (hc1 : ex_cd M.2.2.2.2 pc = some (.lcmp, x1, y1, z1, p2)) (hc2 : ex_cd M.2.2.2.2 p2 = some (.ifCond .lt off, x, y, z, nx)) (h : if a < b then w_W G d M t x lv st m Q else w_W G d M t nx lv st m Q) : w_W G d M t pc lv ((1, b) :: (1, a) :: st) m Q := by
  intro k1 k2 k3
  refine w_lcmp hc1 (w_iflt hc2 ?_) k1 k2 k3
  have hl := w_cmp_lt (w_ns1 (w_nst k3)) (w_ns1 k3)
  by_cases q : a < b
  · rw [if_pos q] at h
    rw [if_pos (hl.mpr q)]
    exact h
  · rw [if_neg q] at h
    rw [if_neg (fun e => q (hl.mp e))]
    exact h
theorem w_lcge {off : Int} (hc1 : ex_cd M.2.2.2.2 pc = some (.lcmp, x1, y1, z1, p2)) (hc2 : ex_cd M.2.2.2.2 p2 = some (.ifCond .ge off, x, y, z, nx)) (h : if a < b then w_W G d M t nx lv st m Q else w_W G d M t x lv st m Q) : w_W G d M t pc lv ((1, b) :: (1, a) :: st) m Q := by
  intro k1 k2 k3
  refine w_lcmp hc1 (w_ifge hc2 ?_) k1 k2 k3
  have hl := w_cmp_lt (w_ns1 (w_nst k3)) (w_ns1 k3)
  by_cases q : a < b
  · rw [if_pos q] at h
    rw [if_pos (hl.mpr q)]
    exact h
  · rw [if_neg q] at h
    rw [if_neg (fun e => q (hl.mp e))]
    exact h
theorem w_lcgt {off : Int} (hc1 : ex_cd M.2.2.2.2 pc = some (.lcmp, x1, y1, z1, p2)) (hc2 : ex_cd M.2.2.2.2 p2 = some (.ifCond .gt off, x, y, z, nx)) (h : if b < a then w_W G d M t x lv st m Q else w_W G d M t nx lv st m Q) : w_W G d M t pc lv ((1, b) :: (1, a) :: st) m Q := by
  intro k1 k2 k3
  refine w_lcmp hc1 (w_ifgt hc2 ?_) k1 k2 k3
  have hl := w_cmp_gt (w_ns1 (w_nst k3)) (w_ns1 k3)
  by_cases q : b < a
  · rw [if_pos q] at h
    rw [if_pos (hl.mpr q)]
    exact h
  · rw [if_neg q] at h
    rw [if_neg (fun e => q (hl.mp e))]
    exact h
theorem w_lcle {off : Int} (hc1 : ex_cd M.2.2.2.2 pc = some (.lcmp, x1, y1, z1, p2)) (hc2 : ex_cd M.2.2.2.2 p2 = some (.ifCond .le off, x, y, z, nx)) (h : if b < a then w_W G d M t nx lv st m Q else w_W G d M t x lv st m Q) : w_W G d M t pc lv ((1, b) :: (1, a) :: st) m Q := by
  intro k1 k2 k3
  refine w_lcmp hc1 (w_ifle hc2 ?_) k1 k2 k3
  have hl := w_cmp_gt (w_ns1 (w_nst k3)) (w_ns1 k3)
  by_cases q : b < a
  · rw [if_pos q] at h
    rw [if_pos (hl.mpr q)]
    exact h
  · rw [if_neg q] at h
    rw [if_neg (fun e => q (hl.mp e))]
    exact h
theorem w_lceq {off : Int} (hc1 : ex_cd M.2.2.2.2 pc = some (.lcmp, x1, y1, z1, p2)) (hc2 : ex_cd M.2.2.2.2 p2 = some (.ifCond .eq off, x, y, z, nx)) (h : if a = b then w_W G d M t x lv st m Q else w_W G d M t nx lv st m Q) : w_W G d M t pc lv ((1, b) :: (1, a) :: st) m Q := by
  intro k1 k2 k3
  refine w_lcmp hc1 (w_ifeq hc2 ?_) k1 k2 k3
  have hl := w_cmp_eq (w_ns1 (w_nst k3)) (w_ns1 k3)
  by_cases q : a = b
  · rw [if_pos q] at h
    rw [if_pos (hl.mpr q)]
    exact h
  · rw [if_neg q] at h
    rw [if_neg (fun e => q (hl.mp e))]
    exact h
theorem w_lcne {off : Int} (hc1 : ex_cd M.2.2.2.2 pc = some (.lcmp, x1, y1, z1, p2)) (hc2 : ex_cd M.2.2.2.2 p2 = some (.ifCond .ne off, x, y, z, nx)) (h : if a = b then w_W G d M t nx lv st m Q else w_W G d M t x lv st m Q) : w_W G d M t pc lv ((1, b) :: (1, a) :: st) m Q := by
  intro k1 k2 k3
  refine w_lcmp hc1 (w_ifne hc2 ?_) k1 k2 k3
  have hl := w_cmp_eq (w_ns1 (w_nst k3)) (w_ns1 k3)
  by_cases q : a = b
  · rw [if_pos q] at h
    rw [if_pos (hl.mpr q)]
    exact h
  · rw [if_neg q] at h
    rw [if_neg (fun e => q (hl.mp e))]
    exact h
end WK
