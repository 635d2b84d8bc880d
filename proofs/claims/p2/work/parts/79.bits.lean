/-! ===== bits of a row of bytes: both sides ===== -/
def y_p (k : Int) : Int := if k = 0 then 1 else if k = 1 then 2 else if k = 2 then 4 else if k = 3 then 8 else if k = 4 then 16 else if k = 5 then 32 else if k = 6 then 64 else 128
/-- bit x -/
def y_b (I : Int → Int) (x : Int) : Int := I (x / 8) / y_p (x % 8) % 2
/-- k bits from x on, the first the lowest -/
def y_V (I : Int → Int) (x : Int) : Nat → Int
  | 0 => 0
  | k + 1 => y_V I x k + y_b I (x + k) * ((2 ^ k : Nat) : Int)
theorem y_b_r (I : Int → Int) (x : Int) : 0 ≤ y_b I x ∧ y_b I x < 2 := by unfold y_b; omega
theorem y_V_r (I : Int → Int) (x : Int) : ∀ k : Nat, 0 ≤ y_V I x k ∧ y_V I x k < ((2 ^ k : Nat) : Int) := by
  intro k
  induction k with
  | zero => exact ⟨Int.le_refl _, (by show (0 : Int) < 1; decide)⟩
  | succ k ih =>
    have hb := y_b_r I (x + k)
    have e : y_V I x (k + 1) = y_V I x k + y_b I (x + k) * ((2 ^ k : Nat) : Int) := rfl
    have p : ((2 ^ (k + 1) : Nat) : Int) = 2 * ((2 ^ k : Nat) : Int) := by rw [Nat.pow_succ]; omega
    rw [e, p]
    have : y_b I (x + k) = 0 ∨ y_b I (x + k) = 1 := by omega
    rcases this with z | z
    · rw [z]; omega
    · rw [z]; omega
theorem y_V_add (I : Int → Int) (x : Int) (a : Nat) : ∀ b : Nat, y_V I x (a + b) = y_V I x a + ((2 ^ a : Nat) : Int) * y_V I (x + a) b := by
  intro b
  induction b with
  | zero => show y_V I x a = y_V I x a + ((2 ^ a : Nat) : Int) * 0; omega
  | succ b ih =>
    have e1 : y_V I x (a + (b + 1)) = y_V I x (a + b) + y_b I (x + ((a + b : Nat) : Int)) * ((2 ^ (a + b) : Nat) : Int) := rfl
    have e2 : y_V I (x + a) (b + 1) = y_V I (x + a) b + y_b I (x + a + b) * ((2 ^ b : Nat) : Int) := rfl
    rw [e1, e2, ih, show x + ((a + b : Nat) : Int) = x + a + b by omega, Nat.pow_add, Int.natCast_mul, Int.mul_add, Int.add_assoc]
    congr 1
    congr 1
    rw [← Int.mul_assoc, ← Int.mul_assoc, Int.mul_comm (y_b I (x + a + b))]
theorem y_V_byte {I : Int → Int} {p : Int} (h0 : 0 ≤ I p) (h1 : I p < 256) : y_V I (8 * p) 8 = I p := by
  have e : ∀ j : Int, 0 ≤ j → j < 8 → y_b I (8 * p + j) = I p / y_p j % 2 := by
    intro j q1 q2
    unfold y_b
    rw [show (8 * p + j) / 8 = p by omega, show (8 * p + j) % 8 = j by omega]
  show 0 + y_b I (8 * p + ((0 : Nat) : Int)) * ((2 ^ 0 : Nat) : Int) + y_b I (8 * p + ((1 : Nat) : Int)) * ((2 ^ 1 : Nat) : Int) + y_b I (8 * p + ((2 : Nat) : Int)) * ((2 ^ 2 : Nat) : Int) + y_b I (8 * p + ((3 : Nat) : Int)) * ((2 ^ 3 : Nat) : Int) + y_b I (8 * p + ((4 : Nat) : Int)) * ((2 ^ 4 : Nat) : Int) + y_b I (8 * p + ((5 : Nat) : Int)) * ((2 ^ 5 : Nat) : Int) + y_b I (8 * p + ((6 : Nat) : Int)) * ((2 ^ 6 : Nat) : Int) + y_b I (8 * p + ((7 : Nat) : Int)) * ((2 ^ 7 : Nat) : Int) = I p
  rw [e _ (by decide) (by decide), e _ (by decide) (by decide), e _ (by decide) (by decide), e _ (by decide) (by decide), e _ (by decide) (by decide), e _ (by decide) (by decide), e _ (by decide) (by decide), e _ (by decide) (by decide)]
  show 0 + I p / 1 % 2 * 1 + I p / 2 % 2 * 2 + I p / 4 % 2 * 4 + I p / 8 % 2 * 8 + I p / 16 % 2 * 16 + I p / 32 % 2 * 32 + I p / 64 % 2 * 64 + I p / 128 % 2 * 128 = I p
  omega
theorem y_V_mod (I : Int → Int) (x : Int) (a b : Nat) : y_V I x (a + b) % ((2 ^ a : Nat) : Int) = y_V I x a := by
  have h := y_V_r I x a
  rw [y_V_add, Int.add_mul_emod_self_left]
  exact Int.emod_eq_of_lt h.1 h.2
theorem y_V_div (I : Int → Int) (x : Int) (a b : Nat) : y_V I x (a + b) / ((2 ^ a : Nat) : Int) = y_V I (x + a) b := by
  have h := y_V_r I x a
  have hp : (0 : Int) < ((2 ^ a : Nat) : Int) := by have := Nat.two_pow_pos a; omega
  rw [y_V_add, Int.add_mul_ediv_left _ _ (by omega), Int.ediv_eq_zero_of_lt h.1 h.2]
  omega
theorem w_or_comm (a b : Int) : w_or a b = w_or b a := by rw [w_or_nat, w_or_nat, Nat.or_comm]
/-- the class's input -/
def y_in (m : w_M) (A base N : Int) (I : Int → Int) : Prop := 0 ≤ A ∧ A ≠ 379 ∧ w_isA 1 A ∧ w_isR A ∧ 0 ≤ base ∧ 0 ≤ N ∧ base + N ≤ w_ln A ∧ w_ln A ≤ 200000 ∧ m 379 6 = A ∧ m 379 8 = base + N ∧ ∀ i, 0 ≤ i → i < N → m A (base + i) % 256 = I i
/-- the class stands at bit x, and holds h bits -/
def y_at (m : w_M) (base : Int) (I : Int → Int) (x : Int) (h : Nat) : Prop := m 379 7 = base + (x + h) / 8 ∧ (x + h) % 8 = 0 ∧ m 379 14 = h ∧ m 379 13 = y_V I x h ∧ 0 ≤ x
/-- only where it stands has changed -/
def y_fr (m m' : w_M) : Prop := ∀ a b : Int, ¬ (a = 379 ∧ (b = 7 ∨ b = 13 ∨ b = 14)) → m' a b = m a b
section YB
variable {d : Nat} {m m' m2 n : w_M} {A base N x : Int} {I : Int → Int} {Q : Int → w_M → Prop}
theorem y_fr.rf : y_fr m m := fun _ _ _ => rfl
theorem y_fr.tr (h : y_fr m m') (h2 : y_fr m' m2) : y_fr m m2 := fun a b q => (h2 a b q).trans (h a b q)
theorem y_in.fr (h : y_in m A base N I) (hf : y_fr m m') : y_in m' A base N I := by
  obtain ⟨a1, a2, a3, a4, a5, a6, a7, a8, a9, b1, b2⟩ := h
  exact ⟨a1, a2, a3, a4, a5, a6, a7, a8, by rw [hf _ _ (by omega)]; exact a9, by rw [hf _ _ (by omega)]; exact b1, fun i q1 q2 => by rw [hf _ _ (by omega)]; exact b2 i q1 q2⟩
theorem sp_in_bits_0 (k : Nat) (hk : k ≤ 16) : ∀ (c h : Nat) (m : w_M), k ≤ h + 8 * c → h ≤ 23 → y_in m A base N I → y_at m base I x h → x + h ≤ 8 * N →
    (x + k ≤ 8 * N → ∀ (m' : w_M) (h' : Nat), y_fr m m' → y_at m' base I (x + k) h' → h' ≤ 23 → h' + k = h + 8 * ((k + 7 - h) / 8) → Q (y_V I x k) m') →
    (8 * N < x + k → ∀ (m' : w_M) (h' : Nat), y_fr m m' → y_at m' base I x h' → x + h' = 8 * N → h' < k → Q (-1) m') → xp_in_bits_0 d k m Q := by
  intro c
  induction c with
  | zero =>
    intro h m hc hh hin hat hx h1 h0
    obtain ⟨a1, a2, a3, a4, a5⟩ := hat
    apply xr_in_bits_0
    rw [if_neg (by omega), a4, a3]
    have hV := y_V_r I x h
    have p32 : ((2 ^ h : Nat) : Int) ≤ 8388608 := by have := Nat.pow_le_pow_right (show 0 < 2 by decide) hh; omega
    have pk : ((2 ^ k : Nat) : Int) ≤ 65536 := by have := Nat.pow_le_pow_right (show 0 < 2 by decide) hk; omega
    have pk0 : (0 : Int) < ((2 ^ k : Nat) : Int) := by have := Nat.two_pow_pos k; omega
    have ek : ((k : Int)).toNat = k := by omega
    have em : w_32 (w_shl 1 k - 1) = ((2 ^ k - 1 : Nat) : Int) := by
      rw [w_shl_v (by omega) (by omega), ek, Int.one_mul, w_32_id (x := ((2 ^ k : Nat) : Int)) (by omega) (by omega), w_32_id (by omega) (by omega)]
      have := Nat.two_pow_pos k
      omega
    obtain ⟨b, hb⟩ : ∃ b, h = k + b := ⟨h - k, by omega⟩
    rw [em, w_and_mask k (by omega), w_ushr_v (by omega) (by omega), ek, show y_V I x h % 4294967296 = y_V I x h from Int.emod_eq_of_lt hV.1 (by omega)]
    rw [hb, y_V_mod, y_V_div]
    have hV2 := y_V_r I (x + k) b
    have p2 : ((2 ^ b : Nat) : Int) ≤ 8388608 := by have := Nat.pow_le_pow_right (show 0 < 2 by decide) (show b ≤ 23 by omega); omega
    rw [w_32_id (x := y_V I (x + k) b) (by omega) (by omega), w_32_id (x := ((k + b : Nat) : Int) - k) (by omega) (by omega)]
    refine h1 (by omega) _ b (fun i j q => ?_) ⟨?_, by omega, ?_, ?_, by omega⟩ (by omega) (by omega)
    · unfold w_up
      rw [if_neg (by omega), if_neg (by omega)]
    · rw [w_up_nb (by decide), w_up_nb (by decide), a1]; omega
    · rw [w_up_eq]; omega
    · rw [w_up_nb (by decide), w_up_eq]
  | succ c ih =>
    intro h m hc hh hin hat hx h1 h0
    by_cases z : k ≤ h
    · exact ih h m (by omega) hh hin hat hx h1 h0
    · obtain ⟨a1, a2, a3, a4, a5⟩ := hat
      have hin' := hin
      obtain ⟨i1, i2, i3, i4, i5, i6, i7, i8, i9, j1, j2⟩ := hin
      apply xr_in_bits_0
      rw [if_pos (by omega), if_neg (by omega)]
      by_cases y : m 379 7 < m 379 8
      · rw [if_pos y, i9]
        refine ⟨i1, i4, ?_⟩
        rw [if_pos (by omega)]
        refine ⟨i1, i3, by omega, ?_⟩
        have e7 : m 379 7 = base + (x + h) / 8 := a1
        have eb : m A (m 379 7) % 256 = I ((x + h) / 8) := by rw [e7]; exact j2 _ (by omega) (by omega)
        have rI : 0 ≤ I ((x + h) / 8) ∧ I ((x + h) / 8) < 256 := by rw [← eb]; omega
        have hV := y_V_r I x h
        have ph : ((2 ^ h : Nat) : Int) ≤ 32768 := by have := Nat.pow_le_pow_right (show 0 < 2 by decide) (show h ≤ 15 by omega); omega
        have eh : ((h : Int)).toNat = h := by omega
        have held : w_or (m 379 13) (w_shl (m A (m 379 7) % 256) (m 379 14)) = y_V I x (h + 8) := by
          rw [eb, a3, a4, w_shl_v (by omega) (by omega), eh, w_or_comm, w_or_apart h (by omega) hV.1 hV.2]
          have hmul : I ((x + h) / 8) * ((2 ^ h : Nat) : Int) ≤ 255 * ((2 ^ h : Nat) : Int) := Int.mul_le_mul_of_nonneg_right (by omega) (by omega)
          have hmul0 : 0 ≤ I ((x + h) / 8) * ((2 ^ h : Nat) : Int) := Int.mul_nonneg rI.1 (by omega)
          rw [w_32_id (by omega) (by omega), y_V_add, show x + (h : Int) = 8 * ((x + h) / 8) by omega, y_V_byte rI.1 rI.2, Int.mul_comm]
          rw [show (8 * ((x + ↑h) / 8)) / 8 = (x + h) / 8 by omega]
          omega
        rw [held, a3, w_32_id (x := (h : Int) + 8) (by omega) (by omega), w_32_id (x := m 379 7 + 1) (by omega) (by omega)]
        have fr : y_fr m (w_up (w_up (w_up m 379 13 (y_V I x (h + 8))) 379 14 ((h : Int) + 8)) 379 7 (m 379 7 + 1)) := by
          intro i j q
          unfold w_up
          rw [if_neg (by omega), if_neg (by omega), if_neg (by omega)]
        refine ih (h + 8) _ (by omega) (by omega) (hin'.fr fr) ⟨?_, by omega, ?_, ?_, a5⟩ (by omega) (fun w m' h' f1 f2 f3 f4 => h1 w m' h' (fr.tr f1) f2 f3 (by omega)) (fun w m' h' f1 => h0 w m' h' (fr.tr f1))
        · rw [w_up_eq, e7]; omega
        · rw [w_up_nb (by decide), w_up_eq]; omega
        · rw [w_up_nb (by decide), w_up_nb (by decide), w_up_eq]
      · rw [if_neg y]
        exact h0 (by omega) m h y_fr.rf ⟨a1, a2, a3, a4, a5⟩ (by omega) (by omega)
/-- so many bits, the class; it holds less than 8 then -/
theorem sp_in_bits (k : Nat) (hk : k ≤ 16) {h : Nat} (hin : y_in m A base N I) (hat : y_at m base I x h) (hh : h ≤ 7) (hx : x + h ≤ 8 * N)
    (h1 : x + k ≤ 8 * N → ∀ (m' : w_M) (h' : Nat), y_fr m m' → y_at m' base I (x + k) h' → h' ≤ 7 → x + k + h' ≤ 8 * N → Q (y_V I x k) m') (h0 : 8 * N < x + k → ∀ (m' : w_M) (h' : Nat), y_fr m m' → y_at m' base I x h' → x + h' = 8 * N → h' < k → Q (-1) m') : xc_in_bits (d + 1) k m Q := by
  apply xr_in_bits
  have hat2 := hat.2.1
  refine sp_in_bits_0 k hk 2 h m (by omega) (by omega) hin hat hx (fun w m' h' f1 f2 f3 f4 => h1 w m' h' f1 f2 (by omega) ?_) h0
  have := f2.2.1
  omega
/-- whatever it holds: it answers something -/
theorem sp_in_bits_any0 (k : Nat) (hk : k ≤ 16) (hin : y_in m A base N I) : ∀ (c : Nat) (m : w_M), y_in m A base N I → 0 ≤ m 379 14 → m 379 14 ≤ 23 → (k : Int) ≤ m 379 14 + 8 * c → (∀ r m', y_fr m m' → 0 ≤ m' 379 14 → m' 379 14 ≤ 23 → Q r m') → xp_in_bits_0 d k m Q := by
  intro c
  induction c with
  | zero =>
    intro m hin h0 h1 hc hQ
    apply xr_in_bits_0
    rw [if_neg (by omega), w_32_id (x := m 379 14 - k) (by omega) (by omega)]
    refine hQ _ _ (fun i j q => ?_) (by rw [w_up_eq]; omega) (by rw [w_up_eq]; omega)
    unfold w_up
    rw [if_neg (by omega), if_neg (by omega)]
  | succ c ih =>
    intro m hin h0 h1 hc hQ
    by_cases z : (k : Int) ≤ m 379 14
    · exact ih m hin h0 h1 (by omega) hQ
    · have hin' := hin
      obtain ⟨i1, i2, i3, i4, i5, i6, i7, i8, i9, j1, j2⟩ := hin
      apply xr_in_bits_0
      rw [if_pos (by omega)]
      by_cases w : m 379 7 < 0
      · rw [if_pos w]
        exact hQ _ _ y_fr.rf h0 h1
      · rw [if_neg w]
        by_cases y : m 379 7 < m 379 8
        · rw [if_pos y, i9]
          refine ⟨i1, i4, ?_⟩
          rw [if_pos (by omega)]
          refine ⟨i1, i3, by omega, ?_⟩
          rw [w_32_id (x := m 379 14 + 8) (by omega) (by omega)]
          have fr : ∀ u v : Int, y_fr m (w_up (w_up (w_up m 379 13 u) 379 14 (m 379 14 + 8)) 379 7 v) := by
            intro u v i j q
            unfold w_up
            rw [if_neg (by omega), if_neg (by omega), if_neg (by omega)]
          have e14 : ∀ u v : Int, w_up (w_up (w_up m 379 13 u) 379 14 (m 379 14 + 8)) 379 7 v 379 14 = m 379 14 + 8 := by
            intro u v
            rw [w_up_nb (by decide), w_up_eq]
          exact ih _ (hin'.fr (fr _ _)) (by rw [e14]; omega) (by rw [e14]; omega) (by rw [e14]; omega) (fun r m' f1 => hQ r m' ((fr _ _).tr f1))
        · rw [if_neg y]
          exact hQ _ _ y_fr.rf h0 h1
theorem sp_in_bits_any (k : Nat) (hk : k ≤ 16) (hin : y_in m A base N I) (h0 : 0 ≤ m 379 14) (h1 : m 379 14 ≤ 23) (hQ : ∀ r m', y_fr m m' → 0 ≤ m' 379 14 → m' 379 14 ≤ 23 → Q r m') : xc_in_bits (d + 1) k m Q := by
  apply xr_in_bits
  exact sp_in_bits_any0 k hk hin 2 m hin h0 h1 (by omega) hQ
/-- the reference's input: N bytes -/
def y_rin (n : w_M) (N : Int) (I : Int → Int) : Prop := n 428 37 = N ∧ 0 ≤ N ∧ N ≤ 8200 ∧ ∀ i, 0 ≤ i → i < N → n 442 i % 256 = I i
theorem y_bit_m {I : Int → Int} (h : y_rin n N I) (hx : 0 ≤ x) (h8 : x < 8 * N) : (w_shr (n 442 (Int.tdiv x 8)) (Int.tmod x 8)) % 2 = y_b I x ∨ ¬ (-128 ≤ n 442 (x / 8) ∧ n 442 (x / 8) < 128) := by
  by_cases hr : -128 ≤ n 442 (x / 8) ∧ n 442 (x / 8) < 128
  · left
    rw [Int.tdiv_eq_ediv_of_nonneg hx, Int.tmod_eq_emod_of_nonneg hx, w_shr_v (by show -2147483648 ≤ _ ∧ _ < 2147483648; omega) (by omega) (by omega)]
    have e := h.2.2.2 (x / 8) (by omega) (by omega)
    unfold y_b
    rw [← e]
    have hm : x % 8 = 0 ∨ x % 8 = 1 ∨ x % 8 = 2 ∨ x % 8 = 3 ∨ x % 8 = 4 ∨ x % 8 = 5 ∨ x % 8 = 6 ∨ x % 8 = 7 := by omega
    rcases hm with z | z | z | z | z | z | z | z <;> rw [z]
    · show n 442 (x / 8) / 1 % 2 = n 442 (x / 8) % 256 / 1 % 2; omega
    · show n 442 (x / 8) / 2 % 2 = n 442 (x / 8) % 256 / 2 % 2; omega
    · show n 442 (x / 8) / 4 % 2 = n 442 (x / 8) % 256 / 4 % 2; omega
    · show n 442 (x / 8) / 8 % 2 = n 442 (x / 8) % 256 / 8 % 2; omega
    · show n 442 (x / 8) / 16 % 2 = n 442 (x / 8) % 256 / 16 % 2; omega
    · show n 442 (x / 8) / 32 % 2 = n 442 (x / 8) % 256 / 32 % 2; omega
    · show n 442 (x / 8) / 64 % 2 = n 442 (x / 8) % 256 / 64 % 2; omega
    · show n 442 (x / 8) / 128 % 2 = n 442 (x / 8) % 256 / 128 % 2; omega
  · exact Or.inr hr
/-- the reference at bit x -/
theorem r_bits_4 (k : Nat) (hk : k ≤ 16) (hin : y_rin n N I) (hby : ∀ j, -128 ≤ n 442 j ∧ n 442 j < 128) (h1 : x + k ≤ 8 * N → Q (y_V I x k) (w_up n 428 39 (x + k))) (h0 : 8 * N < x + k → Q 0 (w_up (w_up n 428 39 (8 * N)) 428 40 1)) (x0 : 0 ≤ x) (x1 : x ≤ 8 * N) :
    ∀ (c j : Nat), j + c = k → x + j ≤ 8 * N → xp_m_bits_4 d k (y_V I x j) j (w_up n 428 39 (x + j)) Q := by
  have hin' := hin
  obtain ⟨i1, i2, i3, i4⟩ := hin
  intro c
  induction c with
  | zero =>
    intro j hj hx
    apply xr_m_bits_4
    have : j = k := by omega
    subst this
    rw [if_neg (by omega)]
    exact h1 hx
  | succ c ih =>
    intro j hj hx
    apply xr_m_bits_4
    rw [if_pos (by omega), w_up_eq, w_up_nb (by decide), i1, w_32_id (x := 8 * N) (by omega) (by omega)]
    by_cases z : x + j < 8 * N
    · rw [if_pos z]
      have e := (y_bit_m hin' (x := x + j) (by omega) z).resolve_right (fun y => y (hby _))
      refine ⟨by rw [Int.tdiv_eq_ediv_of_nonneg (by omega)]; omega, ?_⟩
      have hV := y_V_r I x j
      have hb := y_b_r I (x + j)
      have pj : ((2 ^ j : Nat) : Int) ≤ 65536 := by have := Nat.pow_le_pow_right (show 0 < 2 by decide) (show j ≤ 16 by omega); omega
      have ej : ((j : Int)).toNat = j := by omega
      have ev : w_or (y_V I x j) (w_shl (y_b I (x + j)) j) = y_V I x (j + 1) := by
        rw [w_shl_v (by omega) (by omega), ej, w_or_comm, w_or_apart j (by omega) hV.1 hV.2]
        have e2 : y_V I x (j + 1) = y_V I x j + y_b I (x + j) * ((2 ^ j : Nat) : Int) := rfl
        have hv2 := y_V_r I x (j + 1)
        have pj2 : ((2 ^ (j + 1) : Nat) : Int) ≤ 65536 := by have := Nat.pow_le_pow_right (show 0 < 2 by decide) (show j + 1 ≤ 16 by omega); omega
        rw [Int.add_comm, ← e2, w_32_id (by omega) (by omega)]
      rw [w_up_ne (by decide), e, ev, w_up_up, w_32_id (x := (j : Int) + 1) (by omega) (by omega), w_32_id (x := x + j + 1) (by omega) (by omega), show x + (j : Int) + 1 = x + ((j + 1 : Nat) : Int) by omega, show (j : Int) + 1 = ((j + 1 : Nat) : Int) by omega]
      exact ih (j + 1) (by omega) (by omega)
    · rw [if_neg z, show x + (j : Int) = 8 * N by omega]
      exact h0 (by omega)
theorem r_bits (k : Nat) (hk : k ≤ 16) (hin : y_rin n N I) (hby : ∀ j, -128 ≤ n 442 j ∧ n 442 j < 128) (hx : n 428 39 = x) (x0 : 0 ≤ x) (x1 : x ≤ 8 * N) (h1 : x + k ≤ 8 * N → Q (y_V I x k) (w_up n 428 39 (x + k))) (h0 : 8 * N < x + k → Q 0 (w_up (w_up n 428 39 (8 * N)) 428 40 1)) : xc_m_bits (d + 1) k n Q := by
  apply xr_m_bits
  have := r_bits_4 (d := d) k hk hin hby h1 h0 x0 x1 k 0 (by omega) (by omega)
  rw [show x + ((0 : Nat) : Int) = x by omega, w_up_id hx] at this
  exact this
end YB
