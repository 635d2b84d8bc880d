/-! ===== stored bytes, fixed codes: both sides ===== -/
noncomputable def y_sto (I : Int → Int) (M : Int) : Nat → Int → List Int → Int × Int × List Int
  | 0, x, o => (0, x, o)
  | k + 1, x, o => by classical exact (if M < x + 8 then (1, x, o) else if y_fl o then (1, x, o) else y_sto I M k (x + 8) (o ++ [w_8 (y_V I x 8)]))
def y_al (x : Int) : Int := (x + 7) / 8 * 8
noncomputable def y_str (I : Int → Int) (M x : Int) (o : List Int) : Int × Int × List Int :=
  if M < y_al x + 32 then (1, x, o) else if y_V I (y_al x) 16 + y_V I (y_al x + 16) 16 ≠ 65535 then (1, x, o) else y_sto I M (y_V I (y_al x) 16).toNat (y_al x + 32) o
def y_f1 (i : Int) : Int := if i < 144 then 8 else if i < 256 then 9 else if i < 280 then 7 else 8
def y_f2 (_ : Int) : Int := 5
theorem w_xor_nat (a b : Int) : w_xor a b = w_32 (((a % 4294967296).toNat ^^^ (b % 4294967296).toNat : Nat) : Int) := by
  unfold w_xor
  rw [i_int, Int32.toBitVec_xor, BitVec.toNat_xor, i_nat, i_nat]
theorem y_xor {a : Int} (h0 : 0 ≤ a) (h1 : a < 65536) : w_xor a 65535 = 65535 - a := by
  rw [w_xor_nat]
  have e1 : (a % 4294967296).toNat = a.toNat := by omega
  have e2 : ((65535 : Int) % 4294967296).toNat = 2 ^ 16 - 1 := by decide
  have key : a.toNat ^^^ (2 ^ 16 - 1) = 2 ^ 16 - (a.toNat + 1) := by
    apply Nat.eq_of_testBit_eq
    intro i
    rw [Nat.testBit_xor, Nat.testBit_two_pow_sub_one, Nat.testBit_two_pow_sub_succ (by omega)]
    by_cases z : i < 16
    · simp [z]
    · have : a.toNat.testBit i = false := Nat.testBit_lt_two_pow (Nat.lt_of_lt_of_le (show a.toNat < 2 ^ 16 by omega) (Nat.pow_le_pow_right (by decide) (by omega)))
      simp [z, this]
  rw [e1, e2, key, w_32_id (by omega) (by omega)]
  omega
theorem y_xor2 {a b : Int} (h0 : 0 ≤ a) (h1 : a < 65536) (g0 : 0 ≤ b) (g1 : b < 65536) : w_xor a b = 65535 ↔ a + b = 65535 := by
  have hx := y_xor h0 h1
  constructor
  · intro h
    have e : w_xor a b = w_32 ((a.toNat ^^^ b.toNat : Nat) : Int) := by rw [w_xor_nat, show (a % 4294967296).toNat = a.toNat by omega, show (b % 4294967296).toNat = b.toNat by omega]
    have lt : a.toNat ^^^ b.toNat < 2 ^ 16 := Nat.xor_lt_two_pow (by omega) (by omega)
    rw [e, w_32_id (by omega) (by omega)] at h
    have h' : a.toNat ^^^ b.toNat = 65535 := by omega
    have e2 : w_xor a 65535 = w_32 ((a.toNat ^^^ 65535 : Nat) : Int) := by rw [w_xor_nat, show (a % 4294967296).toNat = a.toNat by omega]; rfl
    have lt2 : a.toNat ^^^ 65535 < 2 ^ 16 := Nat.xor_lt_two_pow (by omega) (by decide)
    rw [e2, ← h', ← Nat.xor_assoc, Nat.xor_self, Nat.zero_xor, w_32_id (by omega) (by omega)] at hx
    omega
  · intro h
    have e2 : w_xor a 65535 = w_32 ((a.toNat ^^^ 65535 : Nat) : Int) := by rw [w_xor_nat, show (a % 4294967296).toNat = a.toNat by omega]; rfl
    have lt2 : a.toNat ^^^ 65535 < 2 ^ 16 := Nat.xor_lt_two_pow (by omega) (by decide)
    rw [e2, w_32_id (by omega) (by omega)] at hx
    have hb : b.toNat = a.toNat ^^^ 65535 := by omega
    rw [w_xor_nat, show (a % 4294967296).toNat = a.toNat by omega, show (b % 4294967296).toNat = b.toNat by omega, hb, ← Nat.xor_assoc, Nat.xor_self, Nat.zero_xor]
    rfl
theorem y_k1 : y_lf (y_c y_f1 288) 15 1 1 = 0 := by decide +kernel
theorem y_k2 : y_lf (y_c y_f2 30) 15 1 1 = 2048 := by decide +kernel
section YH
variable {d : Nat} {m m' m2 n n' n2 : w_M} {Q : Int → w_M → Prop} {I f1 f2 : Int → Int} {A base N O x c M v : Int} {o : List Int} {n1 k2 k : Nat}
theorem sto_0 (h : M < x + 8) : y_sto I M (k + 1) x o = (1, x, o) := if_pos h
theorem sto_1 (h : ¬ M < x + 8) (h2 : y_fl o) : y_sto I M (k + 1) x o = (1, x, o) := (if_neg h).trans (if_pos h2)
theorem sto_s (h : ¬ M < x + 8) (h2 : ¬ y_fl o) : y_sto I M (k + 1) x o = y_sto I M k (x + 8) (o ++ [w_8 (y_V I x 8)]) := (if_neg h).trans (if_neg h2)
theorem sp_in_stored_38 {len : Int} (hl : len ≤ 65535) : ∀ (k : Nat) (i x : Int) (o : List Int) (m : w_M), i + k = len → 0 ≤ i → 0 ≤ x → y_J m A base N I O x o → y_by o →
    (∀ x' o', y_sto I (8 * N) k x o = (0, x', o') → y_by o' → x ≤ x' → ∀ m', y_of O m m' → y_J m' A base N I O x' o' → Q 1 m') → ((y_sto I (8 * N) k x o).1 = 1 → ∀ m', y_of O m m' → Q 0 m') → xp_in_stored_38 (d + 3) len i m Q := by
  intro k
  induction k with
  | zero =>
    intro i x o m hi i0 x0 hJ hby h1 h0
    apply xr_in_stored_38
    rw [if_neg (by omega)]
    exact h1 x o rfl hby (Int.le_refl _) m y_of.rf hJ
  | succ k ih =>
    intro i x o m hi i0 x0 hJ hby h1 h0
    obtain ⟨j1, ⟨h, j2, j3, j4⟩, jr⟩ := id hJ
    apply xr_in_stored_38
    rw [if_pos (by omega)]
    refine sp_in_bits (d := d + 2) 8 (by decide) j1 j2 j3 j4 (fun w m1 h' f1' at1 h7 hx1 => ?_) (fun w m1 h' f1' at1 hxe hlt => ?_)
    · have J1 := hJ.fr f1' at1 h7 hx1
      have hV := y_V_r I x 8
      rw [if_neg (by omega)]
      refine sp_in_write (d := d + 2) J1 (fun z m2 f2' J2 => ?_) (fun z => ?_)
      · rw [if_neg (by decide), w_32_id (by omega) (by omega)]
        rw [sto_s (by omega) z] at h1 h0
        exact ih (i + 1) (x + 8) _ m2 (by omega) (by omega) (by omega) J2 hby.app (fun x' o' y2 y3 y4 m3 f3' => h1 x' o' y2 y3 (by omega) m3 ((f1'.of (O := O)).tr (f2'.tr f3'))) (fun y2 m3 f3' => h0 y2 m3 ((f1'.of (O := O)).tr (f2'.tr f3')))
      · rw [if_pos rfl]
        rw [sto_1 (by omega) z] at h0
        exact h0 rfl m1 f1'.of
    · rw [if_pos (by decide)]
      rw [sto_0 (by omega)] at h0
      exact h0 rfl m1 f1'.of
theorem sp_in_stored (x0 : 0 ≤ x) (hJ : y_J m A base N I O x o) (hby : y_by o)
    (h1 : ∀ x' o', y_str I (8 * N) x o = (0, x', o') → y_by o' → x ≤ x' → ∀ m', y_of O m m' → y_J m' A base N I O x' o' → Q 1 m') (h0 : (y_str I (8 * N) x o).1 = 1 → ∀ m', y_of O m m' → Q 0 m') : xc_in_stored (d + 4) m Q := by
  obtain ⟨j1, ⟨h, j2, j3, j4⟩, jr⟩ := id hJ
  apply xr_in_stored
  apply xr_in_toWholeByte
  have f0 : y_fr m (w_up (w_up m 379 13 0) 379 14 0) := fun i j q => by unfold w_up; rw [if_neg (by omega), if_neg (by omega)]
  obtain ⟨a1, a2, a3, a4, a5⟩ := j2
  have exa : y_al x = x + h := by unfold y_al; omega
  have at0 : y_at (w_up (w_up m 379 13 0) 379 14 0) base I (y_al x) 0 := by
    refine ⟨?_, by omega, by rw [w_up_eq]; rfl, by rw [w_up_nb (by decide), w_up_eq]; rfl, by omega⟩
    rw [w_up_nb (by decide), w_up_nb (by decide), a1]; omega
  obtain ⟨ma, hma⟩ : ∃ ma, ma = w_up (w_up m 379 13 0) 379 14 0 := ⟨_, rfl⟩
  rw [← hma] at f0 at0 ⊢
  have Ja := hJ.fr f0 at0 (by decide) (by omega)
  unfold y_str at h1 h0
  refine sp_in_bits (d := d + 2) 16 (by decide) Ja.1 at0 (by decide) (by omega) (fun w m1 h' f1' at1 h7 hx1 => ?_) (fun w m1 h' f1' at1 hxe hlt => ?_)
  · have J1 := Ja.fr f1' at1 h7 hx1
    have hV := y_V_r I (y_al x) 16
    have hV2 := y_V_r I (y_al x + 16) 16
    have p16 : ((2 ^ 16 : Nat) : Int) = 65536 := rfl
    refine sp_in_bits (d := d + 2) 16 (by decide) J1.1 at1 h7 hx1 (fun w2 m2 h2 f2' at2 h27 hx2 => ?_) (fun w2 m2 h2 f2' at2 hxe hlt => ?_)
    · have J2 := J1.fr f2' at2 h27 hx2
      rw [if_neg (by omega)] at h1 h0
      have e16 : ((16 : Nat) : Int) = 16 := rfl
      rw [if_neg (by omega), e16, if_neg (by omega), y_xor (by omega) (by omega)]
      by_cases z : y_V I (y_al x) 16 + y_V I (y_al x + 16) 16 = 65535
      · rw [if_pos (by omega)]
        rw [if_neg (fun y => y z)] at h1 h0
        rw [e16, show y_al x + 16 + 16 = y_al x + 32 by omega] at J2
        exact sp_in_stored_38 (d := d) (by omega) _ 0 _ o m2 (by omega) (by decide) (by omega) J2 hby (fun x' o' y2 y3 y4 m3 f3' => h1 x' o' y2 y3 (by omega) m3 ((f0.of (O := O)).tr (f1'.of.tr (f2'.of.tr f3')))) (fun y2 m3 f3' => h0 y2 m3 ((f0.of (O := O)).tr (f1'.of.tr (f2'.of.tr f3'))))
      · rw [if_neg (by omega)]
        rw [if_pos z] at h0
        exact h0 rfl m2 ((f0.of (O := O)).tr (f1'.of.tr f2'.of))
    · rw [if_pos (by omega)] at h0
      rw [if_neg (by omega), if_pos (by decide)]
      exact h0 rfl m2 ((f0.of (O := O)).tr (f1'.of.tr f2'.of))
  · rw [if_pos (by omega)] at h0
    have e14 := at1.2.2.1
    refine sp_in_bits_any (d := d + 2) 16 (by decide) (Ja.1.fr f1') (by omega) (by omega) (fun r m2 f2' z0 z1 => ?_)
    rw [if_pos (by decide)]
    exact h0 rfl m2 ((f0.of (O := O)).tr (f1'.of.tr f2'.of))
theorem r_stored_55 {len : Int} (hl : len ≤ 65535) : ∀ (k : Nat) (i x : Int) (o : List Int) (n : w_M), i + k = len → 0 ≤ i → y_K n N I x o → y_by o →
    (∀ x' o', y_sto I (8 * N) k x o = (0, x', o') → y_by o' → ∀ n', y_ofr n n' → y_K n' N I x' o' → Q 0 n') → ((y_sto I (8 * N) k x o).1 = 1 → ∀ n', y_ofr n n' → n' 428 40 = 1 → Q 0 n') → xp_m_stored_55 (d + 2) len i n Q := by
  intro k
  induction k with
  | zero =>
    intro i x o n hi i0 hK hby h1 h0
    apply xr_m_stored_55
    rw [if_neg (by omega)]
    exact h1 x o rfl hby n y_ofr.rf hK
  | succ k ih =>
    intro i x o n hi i0 hK hby h1 h0
    obtain ⟨j1, j2, j3, j4, j5, j6, j7, j8, j9⟩ := id hK
    have stop : ∀ {n2 : w_M} {i2 : Int}, n2 428 40 = 1 → Q 0 n2 → xp_m_stored_55 (d + 2) len i2 n2 Q := by
      intro n2 i2 y1 y2
      apply xr_m_stored_55
      split
      · rw [if_neg (by omega)]; exact y2
      · exact y2
    apply xr_m_stored_55
    rw [if_pos (by omega), if_pos j5, w_32_id (x := i + 1) (by omega) (by omega)]
    refine r_bits (d := d + 1) 8 (by decide) j1 j9 j2 j3 j4 (fun w => ?_) (fun w => ?_)
    · have f3 : y_rfr n (w_up n 428 39 (x + ((8 : Nat) : Int))) := fun i j q => by unfold w_up; rw [if_neg (by omega)]
      have K2 := hK.fr f3 w_up_eq (by omega) w (by rw [w_up_nb (by decide)]; exact j5)
      refine r_emit (d := d + 1) K2 (fun z m2 f2' K3 => ?_) (fun z m2 f2' b2 => ?_)
      · rw [sto_s (by omega) z] at h1 h0
        exact ih (i + 1) (x + 8) _ m2 (by omega) (by omega) K3 hby.app (fun x' o' y2 y3 m3 f3' => h1 x' o' y2 y3 m3 (f3.of.tr (f2'.tr f3'))) (fun y2 m3 f3' => h0 y2 m3 (f3.of.tr (f2'.tr f3')))
      · rw [sto_1 (by omega) z] at h0
        exact stop b2 (h0 rfl m2 (f3.of.tr f2') b2)
    · rw [sto_0 (by omega)] at h0
      have f3 : y_ofr n (w_up (w_up n 428 39 (8 * N)) 428 40 1) := fun i j q q2 => by unfold w_up; rw [if_neg (by omega), if_neg (by omega)]
      -- one byte more may be put, and none is looked at
      apply xr_m_emit
      have e38 : w_up (w_up n 428 39 (8 * N)) 428 40 1 428 38 = o.length := by rw [w_up_nb (by decide), w_up_nb (by decide)]; exact j6
      obtain ⟨K, hK2⟩ : ∃ K : Int, K = o.length := ⟨_, rfl⟩
      rw [e38, ← hK2]
      rw [← hK2] at j7
      by_cases z : K = 8000
      · rw [if_pos z, w_up_up]
        have f4 : y_ofr n (w_up (w_up n 428 39 (8 * N)) 428 40 1) := f3
        exact stop w_up_eq (h0 rfl _ f4 w_up_eq)
      · rw [if_neg z]
        refine ⟨by omega, ?_⟩
        have f5 : y_ofr n (w_up (w_up (w_up (w_up n 428 39 (8 * N)) 428 40 1) 443 K (w_8 (w_8 0))) 428 38 (w_32 (K + 1))) := fun i j q q2 => by unfold w_up; rw [if_neg (by omega), if_neg (by omega), if_neg (by omega), if_neg (by omega)]
        have e40 : w_up (w_up (w_up (w_up n 428 39 (8 * N)) 428 40 1) 443 K (w_8 (w_8 0))) 428 38 (w_32 (K + 1)) 428 40 = 1 := by rw [w_up_nb (by decide), w_up_ne (by decide), w_up_eq]
        exact stop e40 (h0 rfl _ f5 e40)
theorem r_stored (hK : y_K n N I x o) (hby : y_by o)
    (h1 : ∀ x' o', y_str I (8 * N) x o = (0, x', o') → y_by o' → ∀ n', y_ofr n n' → y_K n' N I x' o' → Q 0 n') (h0 : (y_str I (8 * N) x o).1 = 1 → ∀ n', y_ofr n n' → n' 428 40 = 1 → Q 0 n') : xc_m_stored (d + 3) n Q := by
  obtain ⟨j1, j2, j3, j4, j5, j6, j7, j8, j9⟩ := id hK
  have hN := j1.2.2.1
  apply xr_m_stored
  have exa : w_32 (Int.tdiv (w_32 (n 428 39 + 7)) 8 * 8) = y_al x := by
    rw [j2, w_32_id (x := x + 7) (by omega) (by omega), Int.tdiv_eq_ediv_of_nonneg (by omega), w_32_id (by omega) (by omega)]
    rfl
  have hal : x ≤ y_al x ∧ y_al x ≤ 8 * N := by unfold y_al; omega
  rw [exa]
  have f0 : y_rfr n (w_up n 428 39 (y_al x)) := fun i j q => by unfold w_up; rw [if_neg (by omega)]
  have K0 := hK.fr f0 w_up_eq (by omega) hal.2 (by rw [w_up_nb (by decide)]; exact j5)
  unfold y_str at h1 h0
  have hV := y_V_r I (y_al x) 16
  have hV2 := y_V_r I (y_al x + 16) 16
  have p16 : ((2 ^ 16 : Nat) : Int) = 65536 := rfl
  have e16 : ((16 : Nat) : Int) = 16 := rfl
  refine r_bits (d := d + 1) 16 (by decide) K0.1 K0.2.2.2.2.2.2.2.2 w_up_eq (by omega) hal.2 (fun w => ?_) (fun w => ?_)
  · rw [w_up_up, e16]
    have f1 : y_rfr n (w_up n 428 39 (y_al x + 16)) := fun i j q => by unfold w_up; rw [if_neg (by omega)]
    have K1 := hK.fr f1 w_up_eq (by omega) (by omega) (by rw [w_up_nb (by decide)]; exact j5)
    refine r_bits (d := d + 1) 16 (by decide) K1.1 K1.2.2.2.2.2.2.2.2 w_up_eq (by omega) (by omega) (fun w2 => ?_) (fun w2 => ?_)
    · rw [w_up_up, e16, w_up_nb (by decide), if_pos j5]
      rw [if_neg (by omega)] at h1 h0
      have f2 : y_rfr n (w_up n 428 39 (y_al x + 16 + 16)) := fun i j q => by unfold w_up; rw [if_neg (by omega)]
      have K2 := hK.fr f2 w_up_eq (by omega) (by omega) (by rw [w_up_nb (by decide)]; exact j5)
      have hx := y_xor2 (a := y_V I (y_al x) 16) (b := y_V I (y_al x + 16) 16) (by omega) (by omega) (by omega) (by omega)
      by_cases z : y_V I (y_al x) 16 + y_V I (y_al x + 16) 16 = 65535
      · rw [if_pos (hx.2 z)]
        rw [if_neg (fun y => y z)] at h1 h0
        rw [show y_al x + 16 + 16 = y_al x + 32 by omega] at K2 f2 ⊢
        exact r_stored_55 (d := d) (by omega) _ 0 _ o _ (by omega) (by decide) K2 hby (fun x' o' y2 y3 m3 f3' => h1 x' o' y2 y3 m3 (f2.of.tr f3')) (fun y2 m3 f3' => h0 y2 m3 (f2.of.tr f3'))
      · rw [if_neg (fun y => z (hx.1 y))]
        rw [if_pos z] at h0
        exact h0 rfl _ (r_br f2.of) w_up_eq
    · rw [w_up_eq, if_neg (by decide)]
      rw [if_pos (by omega)] at h0
      refine h0 rfl _ (fun i j q q2 => ?_) w_up_eq
      unfold w_up
      rw [if_neg (by omega), if_neg (by omega), if_neg (by omega), if_neg (by omega)]
  · rw [if_pos (by omega)] at h0
    rw [w_up_up]
    have f1 : y_rfr n (w_up (w_up n 428 39 (8 * N)) 428 40 1) := fun i j q => by unfold w_up; rw [if_neg (by omega), if_neg (by omega)]
    refine r_bits (d := d + 1) (x := 8 * N) 16 (by decide) (j1.fr f1) (fun j => by rw [f1 _ _ (by omega)]; exact j9 j) (by rw [w_up_nb (by decide), w_up_eq]) (by omega) (Int.le_refl _) (fun w2 => by omega) (fun w2 => ?_)
    rw [w_up_eq, if_neg (by decide)]
    refine h0 rfl _ (fun i j q q2 => ?_) w_up_eq
    unfold w_up
    rw [if_neg (by omega), if_neg (by omega), if_neg (by omega), if_neg (by omega), if_neg (by omega)]
/-- a stored block where all has broken -/
theorem r_stored_b (hin : y_rin n N I) (hby : ∀ j, -128 ≤ n 442 j ∧ n 442 j < 128) (h39 : n 428 39 = 8 * N) (hQ : ∀ n', y_ofr n n' → n' 428 40 = 1 → Q 0 n') : xc_m_stored (d + 3) n Q := by
  have hN := hin.2.2.1
  have hN0 := hin.2.1
  apply xr_m_stored
  have exa : w_32 (Int.tdiv (w_32 (n 428 39 + 7)) 8 * 8) = 8 * N := by
    rw [h39, w_32_id (x := 8 * N + 7) (by omega) (by omega), Int.tdiv_eq_ediv_of_nonneg (by omega), w_32_id (by omega) (by omega)]
    omega
  rw [exa, w_up_id h39]
  refine r_bits (d := d + 1) (x := 8 * N) 16 (by decide) hin hby h39 (by omega) (Int.le_refl _) (fun w2 => by omega) (fun w2 => ?_)
  have f1 : y_rfr n (w_up (w_up n 428 39 (8 * N)) 428 40 1) := fun i j q => by unfold w_up; rw [if_neg (by omega), if_neg (by omega)]
  refine r_bits (d := d + 1) (x := 8 * N) 16 (by decide) (hin.fr f1) (fun j => by rw [f1 _ _ (by omega)]; exact hby j) (by rw [w_up_nb (by decide), w_up_eq]) (by omega) (Int.le_refl _) (fun w2 => by omega) (fun w2 => ?_)
  rw [w_up_eq, if_neg (by decide)]
  refine hQ _ (fun i j q q2 => ?_) w_up_eq
  unfold w_up
  rw [if_neg (by omega), if_neg (by omega), if_neg (by omega), if_neg (by omega), if_neg (by omega)]
/-- only codes have changed -/
def y_tf (m m' : w_M) : Prop := ∀ i j : Int, ¬ (380 ≤ i ∧ i ≤ 385) → m' i j = m i j
def y_rtf (n n' : w_M) : Prop := ∀ i j : Int, ¬ (444 ≤ i ∧ i ≤ 450) → n' i j = n i j
theorem y_J.tf (h : y_J m A base N I O x o) (hf : y_tf m m') : y_J m' A base N I O x o := by
  obtain ⟨a1, ⟨h, b1, b2, b3⟩, a3, a4, a5, a6, a7, a8⟩ := h
  have hO := y_oO a4
  obtain ⟨i1, i2, i3, i4, i5, i6, i7, i8, i9, j1, j2⟩ := a1
  have hA : ¬ (380 ≤ A ∧ A ≤ 385) := by
    intro q
    obtain ⟨k, hk⟩ := i3
    have : A = 380 ∨ A = 381 ∨ A = 382 ∨ A = 383 ∨ A = 384 ∨ A = 385 := by omega
    rcases this with e | e | e | e | e | e <;> subst e
    · rw [s0_380] at hk; cases hk
    · rw [s0_381] at hk; cases hk
    · rw [s0_382] at hk; cases hk
    · rw [s0_383] at hk; cases hk
    · rw [s0_384] at hk; cases hk
    · rw [s0_385] at hk; cases hk
  obtain ⟨c1, c2, c3, c4, c5⟩ := b1
  exact ⟨⟨i1, i2, i3, i4, i5, i6, i7, i8, by rw [hf _ _ (by omega)]; exact i9, by rw [hf _ _ (by omega)]; exact j1, fun i q1 q2 => by rw [hf _ _ hA]; exact j2 i q1 q2⟩, ⟨h, ⟨by rw [hf _ _ (by omega)]; exact c1, c2, by rw [hf _ _ (by omega)]; exact c3, by rw [hf _ _ (by omega)]; exact c4, c5⟩, b2, b3⟩, by rw [hf _ _ (by omega)]; exact a3, a4, a5, by rw [hf _ _ (by omega)]; exact a6, a7, fun i hi => by rw [hf _ _ (by omega)]; exact a8 i hi⟩
theorem y_K.tf (h : y_K n N I x o) (hf : y_rtf n n') : y_K n' N I x o := by
  obtain ⟨⟨b1, b2, b3, b4⟩, a2, a3, a4, a5, a6, a7, a8, a9⟩ := h
  exact ⟨⟨by rw [hf _ _ (by omega)]; exact b1, b2, b3, fun i q1 q2 => by rw [hf _ _ (by omega)]; exact b4 i q1 q2⟩, by rw [hf _ _ (by omega)]; exact a2, a3, a4, by rw [hf _ _ (by omega)]; exact a5, by rw [hf _ _ (by omega)]; exact a6, a7, fun i hi => by rw [hf _ _ (by omega)]; exact a8 i hi, fun j => by rw [hf _ _ (by omega)]; exact a9 j⟩
theorem sp_in_fixed (hQ : ∀ m', y_tf m m' → y_tb m' 381 382 383 384 y_f1 288 y_f2 30 → Q 0 m') : xc_in_fixedCodes (d + 3) m Q := by
  have l2 : ∀ (k : Nat) (i : Int) (m' : w_M), i + k = 30 → 0 ≤ i → y_tf m m' → y_cn m' 381 y_f1 288 → y_sy m' 382 y_f1 288 288 → (∀ j, 0 ≤ j → j < i → m' 380 j = 5) → xp_in_fixedCodes_78 (d + 2) i m' Q := by
    intro k
    induction k with
    | zero =>
      intro i m' hi i0 f c1 c2 c3
      apply xr_in_fixedCodes_78
      rw [if_neg (by omega)]
      refine sp_in_build (d := d) (k := 30) (f := y_f2) (Or.inr ⟨rfl, rfl, by decide⟩) (by decide) (fun j hj => ⟨by rw [Int.zero_add]; exact c3 j (by omega) (by omega), by show (0 : Int) ≤ 5; decide, by show (5 : Int) ≤ 15; decide⟩) (fun m2 b1 b2 b3 => ?_)
      refine hQ m2 (fun i j q => (b1 i j (by omega) (by omega) (by omega)).trans (f i j q)) ⟨fun l q1 q2 => by rw [b1 _ _ (by decide) (by decide) (by decide)]; exact c1 l q1 q2, fun j q1 q2 => by rw [b1 _ _ (by decide) (by decide) (by decide)]; exact c2 j q1 q2, b2, b3 (by rw [y_k2]; decide)⟩
    | succ k ih =>
      intro i m' hi i0 f c1 c2 c3
      apply xr_in_fixedCodes_78
      rw [if_pos (by omega), w_32_id (by omega) (by omega)]
      refine ⟨by omega, ih (i + 1) _ (by omega) (by omega) (fun p j q => by rw [w_up_ne (by omega)]; exact f p j q) (fun l q1 q2 => by rw [w_up_ne (by decide)]; exact c1 l q1 q2) (fun j q1 q2 => by rw [w_up_ne (by decide)]; exact c2 j q1 q2) (fun j q1 q2 => ?_)⟩
      by_cases z : j = i
      · rw [z, w_up_eq]
      · rw [w_up_nb z]; exact c3 j q1 (by omega)
  have l1 : ∀ (k : Nat) (i : Int) (m' : w_M), i + k = 288 → 0 ≤ i → y_tf m m' → (∀ j, 0 ≤ j → j < i → m' 380 j = y_f1 j) → xp_in_fixedCodes_2 (d + 2) i m' Q := by
    intro k
    induction k with
    | zero =>
      intro i m' hi i0 f c3
      apply xr_in_fixedCodes_2
      rw [if_neg (by omega)]
      refine sp_in_build (d := d) (k := 288) (f := y_f1) (Or.inl ⟨rfl, rfl, by decide⟩) (by decide) (fun j hj => ⟨by rw [Int.zero_add]; exact c3 j (by omega) (by omega), by unfold y_f1; split <;> (try split) <;> (try split) <;> decide, by unfold y_f1; split <;> (try split) <;> (try split) <;> decide⟩) (fun m2 b1 b2 b3 => ?_)
      exact l2 30 0 m2 (by decide) (by decide) (fun i j q => (b1 i j (by omega) (by omega) (by omega)).trans (f i j q)) b2 (b3 (by rw [y_k1]; decide)) (fun j q1 q2 => by omega)
    | succ k ih =>
      intro i m' hi i0 f c3
      have go : ∀ v, v = y_f1 i → ((0 : Int) ≤ i ∧ i < 320) ∧ xp_in_fixedCodes_2 (d + 2) (i + 1) (w_up m' 380 i v) Q := by
        intro v hv
        refine ⟨by omega, ih (i + 1) _ (by omega) (by omega) (fun p j q => by rw [w_up_ne (by omega)]; exact f p j q) (fun j q1 q2 => ?_)⟩
        by_cases z : j = i
        · rw [z, w_up_eq, hv]
        · rw [w_up_nb z]; exact c3 j q1 (by omega)
      apply xr_in_fixedCodes_2
      rw [if_pos (by omega), w_32_id (by omega) (by omega)]
      unfold y_f1 at go
      by_cases z1 : i < 144
      · rw [if_pos z1] at go ⊢; exact go _ rfl
      · rw [if_neg z1] at go ⊢
        by_cases z2 : i < 256
        · rw [if_pos z2] at go ⊢; exact go _ rfl
        · rw [if_neg z2] at go ⊢
          by_cases z3 : i < 280
          · rw [if_pos z3] at go ⊢; exact go _ rfl
          · rw [if_neg z3] at go ⊢; exact go _ rfl
  apply xr_in_fixedCodes
  exact l1 288 0 m (by decide) (by decide) (fun _ _ _ => rfl) (fun j q1 q2 => by omega)
theorem r_fixed (hQ : ∀ n', y_rtf n n' → y_tb n' 445 446 447 448 y_f1 288 y_f2 30 → Q 0 n') : xc_m_fixed (d + 3) n Q := by
  have l2 : ∀ (k : Nat) (i : Int) (m' : w_M), i + k = 30 → 0 ≤ i → y_rtf n m' → y_cn m' 445 y_f1 288 → y_sy m' 446 y_f1 288 288 → (∀ j, 0 ≤ j → j < i → m' 444 j = 5) → xp_m_fixed_78 (d + 2) i m' Q := by
    intro k
    induction k with
    | zero =>
      intro i m' hi i0 f c1 c2 c3
      apply xr_m_fixed_78
      rw [if_neg (by omega)]
      refine r_build (d := d + 1) (k := 30) (f := y_f2) (Or.inr ⟨rfl, rfl, by decide⟩) (by decide) (fun j hj => ⟨by rw [Int.zero_add]; exact c3 j (by omega) (by omega), by show (0 : Int) ≤ 5; decide, by show (5 : Int) ≤ 15; decide⟩) (fun m2 b1 b2 b3 => ?_)
      refine hQ m2 (fun i j q => (b1 i j (by omega) (by omega) (by omega)).trans (f i j q)) ⟨fun l q1 q2 => by rw [b1 _ _ (by decide) (by decide) (by decide)]; exact c1 l q1 q2, fun j q1 q2 => by rw [b1 _ _ (by decide) (by decide) (by decide)]; exact c2 j q1 q2, b2, b3 (by rw [y_k2]; decide)⟩
    | succ k ih =>
      intro i m' hi i0 f c1 c2 c3
      apply xr_m_fixed_78
      rw [if_pos (by omega), w_32_id (by omega) (by omega)]
      refine ⟨by omega, ih (i + 1) _ (by omega) (by omega) (fun p j q => by rw [w_up_ne (by omega)]; exact f p j q) (fun l q1 q2 => by rw [w_up_ne (by decide)]; exact c1 l q1 q2) (fun j q1 q2 => by rw [w_up_ne (by decide)]; exact c2 j q1 q2) (fun j q1 q2 => ?_)⟩
      by_cases z : j = i
      · rw [z, w_up_eq]
      · rw [w_up_nb z]; exact c3 j q1 (by omega)
  have l1 : ∀ (k : Nat) (i : Int) (m' : w_M), i + k = 288 → 0 ≤ i → y_rtf n m' → (∀ j, 0 ≤ j → j < i → m' 444 j = y_f1 j) → xp_m_fixed_2 (d + 2) i m' Q := by
    intro k
    induction k with
    | zero =>
      intro i m' hi i0 f c3
      apply xr_m_fixed_2
      rw [if_neg (by omega)]
      refine r_build (d := d + 1) (k := 288) (f := y_f1) (Or.inl ⟨rfl, rfl, by decide⟩) (by decide) (fun j hj => ⟨by rw [Int.zero_add]; exact c3 j (by omega) (by omega), by unfold y_f1; split <;> (try split) <;> (try split) <;> decide, by unfold y_f1; split <;> (try split) <;> (try split) <;> decide⟩) (fun m2 b1 b2 b3 => ?_)
      exact l2 30 0 m2 (by decide) (by decide) (fun i j q => (b1 i j (by omega) (by omega) (by omega)).trans (f i j q)) b2 (b3 (by rw [y_k1]; decide)) (fun j q1 q2 => by omega)
    | succ k ih =>
      intro i m' hi i0 f c3
      have go : ∀ v, v = y_f1 i → ((0 : Int) ≤ i ∧ i < 320) ∧ xp_m_fixed_2 (d + 2) (i + 1) (w_up m' 444 i v) Q := by
        intro v hv
        refine ⟨by omega, ih (i + 1) _ (by omega) (by omega) (fun p j q => by rw [w_up_ne (by omega)]; exact f p j q) (fun j q1 q2 => ?_)⟩
        by_cases z : j = i
        · rw [z, w_up_eq, hv]
        · rw [w_up_nb z]; exact c3 j q1 (by omega)
      apply xr_m_fixed_2
      rw [if_pos (by omega), w_32_id (by omega) (by omega)]
      unfold y_f1 at go
      by_cases z1 : i < 144
      · rw [if_pos z1] at go ⊢; exact go _ rfl
      · rw [if_neg z1] at go ⊢
        by_cases z2 : i < 256
        · rw [if_pos z2] at go ⊢; exact go _ rfl
        · rw [if_neg z2] at go ⊢
          by_cases z3 : i < 280
          · rw [if_pos z3] at go ⊢; exact go _ rfl
          · rw [if_neg z3] at go ⊢; exact go _ rfl
  apply xr_m_fixed
  exact l1 288 0 n (by decide) (by decide) (fun _ _ _ => rfl) (fun j q1 q2 => by omega)
end YH
