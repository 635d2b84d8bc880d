/-! ===== the painter: matrices ===== -/
def p_32 (a : Int) : Prop := -2147483648 ≤ a ∧ a ≤ 2147483647
def p_T (a b : Int) : Int := (a * b + 32768) / 65536
def p_e (x0 x1 a c t : Int) : Int := p_T x0 a + p_T x1 c + t
/-- the product of two matrices: its number k -/
def p_mul (x y : Int → Int) (k : Int) : Int := if k % 2 = 0 then p_e (x k) (x (k + 1)) (y 0) (y 2) (if k = 4 then y 4 else 0) else p_e (x (k - 1)) (x k) (y 1) (y 3) (if k = 5 then y 5 else 0)
section PM
variable {d : Nat} {m m' m0 m1 m2 n n' n0 n1 n2 : w_M} {Q : Int → w_M → Prop} {a b c x y k l0 l1 l2 l3 l4 l5 l6 l7 : Int}
theorem p_mulb (ha : p_32 a) (hb : p_32 b) : -4611686018427387904 ≤ a * b ∧ a * b ≤ 4611686018427387904 := by
  unfold p_32 at ha hb
  have h1 : a.natAbs ≤ 2147483648 := by omega
  have h2 : b.natAbs ≤ 2147483648 := by omega
  have h3 := Nat.mul_le_mul h1 h2
  rw [← Int.natAbs_mul] at h3
  omega
theorem p_T_b (ha : p_32 a) (hb : p_32 b) : -70368744177665 ≤ p_T a b ∧ p_T a b ≤ 70368744177665 := by
  have h := p_mulb ha hb
  unfold p_T
  omega
theorem p_T_w (ha : p_32 a) (hb : p_32 b) : (w_64 (w_64 (a * b) + 32768)) / 65536 = p_T a b := by
  have h := p_mulb ha hb
  unfold p_T
  rw [w_64_id (x := a * b) (by omega) (by omega), w_64_id (by omega) (by omega)]
theorem p_e_b (h0 : p_32 x) (h1 : p_32 y) (ha : p_32 a) (hc : p_32 b) (ht : p_32 c) : -140739640000000 ≤ p_e x y a b c ∧ p_e x y a b c ≤ 140739640000000 := by
  have e1 := p_T_b h0 ha
  have e2 := p_T_b h1 hc
  unfold p_32 at ht
  unfold p_e
  omega
/-- a row of the class's product -/
theorem c_mrow (H0 : w_isA 0 l0 ∧ 6 ≤ w_ln l0) (H1 : w_isA 0 l1 ∧ 6 ≤ w_ln l1) (H2 : w_isA 0 l2 ∧ w_wr (w_G0 sC) (Int.toNat l2) ∧ 6 ≤ w_ln l2) (hk : k = 0 ∨ k = 2 ∨ k = 4) (hx0 : p_32 (m l0 k)) (hx1 : p_32 (m l0 (k + 1)))
    (h3 : p_32 l3) (h4 : p_32 l4) (h5 : p_32 l5) (h6 : p_32 l6) (y4 : p_32 (m l1 4)) (y5 : p_32 (m l1 5)) (p q : Int) (hp : p = p_e (m l0 k) (m l0 (k + 1)) l3 l5 (if k = 4 then m l1 4 else 0)) (hq : q = p_e (m l0 k) (m l0 (k + 1)) l4 l6 (if k = 4 then m l1 5 else 0))
    (hQ : xp_pa_multiply_48 (d + 1) l0 l1 l2 l3 l4 l5 l6 (if l7 = 0 then 0 else if p = w_32 p ∧ q = w_32 q then 1 else 0) (k + 2) (w_up (w_up m l2 k (w_32 p)) l2 (k + 1) (w_32 q)) Q) : xp_pa_multiply_48 (d + 1) l0 l1 l2 l3 l4 l5 l6 l7 k m Q := by
  have k1 : w_32 (k + 1) = k + 1 := w_32_id (by omega) (by omega)
  have k2 : w_32 (k + 2) = k + 2 := w_32_id (by omega) (by omega)
  have t1 := p_T_b hx0 h3
  have t2 := p_T_b hx1 h5
  have t3 := p_T_b hx0 h4
  have t4 := p_T_b hx1 h6
  have z0 : p_32 0 := by unfold p_32; decide
  have y4' := y4
  have y5' := y5
  unfold p_32 at y4' y5'
  have stores : ∀ v : Int, xp_pa_multiply_48 (d + 1) l0 l1 l2 l3 l4 l5 l6 v (k + 2) (w_up (w_up m l2 k (w_32 p)) l2 (k + 1) (w_32 q)) Q → (w_isA 0 l2 ∧ w_wr (w_G0 sC) (Int.toNat l2) ∧ ((0 : Int) ≤ k ∧ k < w_ln l2) ∧ (w_isA 0 l2 ∧ w_wr (w_G0 sC) (Int.toNat l2) ∧ ((0 : Int) ≤ k + 1 ∧ k + 1 < w_ln l2) ∧ (xp_pa_multiply_48 (d + 1) l0 l1 l2 l3 l4 l5 l6 v (k + 2) (w_up (w_up m l2 k (w_32 p)) l2 (k + 1) (w_32 q)) Q))) := fun v h => ⟨H2.1, H2.2.1, by have := H2.2.2; omega, H2.1, H2.2.1, by have := H2.2.2; omega, h⟩
  have e136 : ∀ s0 s1 : Int, w_64 (s0 + s1) = q → xp_pa_multiply_136 (d + 1) l0 l1 l2 l3 l4 l5 l6 l7 k p s0 s1 m Q := fun s0 s1 hs => by
    apply xr_pa_multiply_136
    rw [hs, k1, k2]
    by_cases c0 : l7 = 0
    · rw [if_pos c0]
      rw [if_pos c0] at hQ
      exact stores _ hQ
    · rw [if_neg c0]
      rw [if_neg c0] at hQ
      by_cases c1 : p = w_32 p
      · rw [if_pos c1]
        by_cases c2 : q = w_32 q
        · rw [if_pos c2]
          rw [if_pos ⟨c1, c2⟩] at hQ
          exact stores _ hQ
        · rw [if_neg c2]
          rw [if_neg (fun u => c2 u.2)] at hQ
          exact stores _ hQ
      · rw [if_neg c1]
        rw [if_neg (fun u => c1 u.1)] at hQ
        exact stores _ hQ
  have e100 : ∀ s0 s1 : Int, w_64 (s0 + s1) = p → xp_pa_multiply_100 (d + 1) l0 l1 l2 l3 l4 l5 l6 l7 k (m l0 k) (m l0 (k + 1)) s0 s1 m Q := fun s0 s1 hs => by
    apply xr_pa_multiply_100
    rw [hs]
    apply xr_pa_times
    rw [p_T_w hx0 h4]
    apply xr_pa_times
    rw [p_T_w hx1 h6, w_64_id (x := p_T (m l0 k) l4 + p_T (m l0 (k + 1)) l6) (by omega) (by omega)]
    by_cases c4 : k = 4
    · rw [if_pos c4]
      rw [if_pos c4] at hq
      unfold p_e at hq
      exact ⟨H1.1, by have := H1.2; omega, e136 _ _ (by rw [w_64_id (by omega) (by omega)]; exact hq.symm)⟩
    · rw [if_neg c4]
      rw [if_neg c4] at hq
      unfold p_e at hq
      exact e136 _ _ (by rw [w_64_id (by omega) (by omega)]; exact hq.symm)
  apply xr_pa_multiply_48
  rw [if_pos (by omega), k1]
  refine ⟨H0.1, by have := H0.2; omega, H0.1, by have := H0.2; omega, ?_⟩
  apply xr_pa_times
  rw [p_T_w hx0 h3]
  apply xr_pa_times
  rw [p_T_w hx1 h5, w_64_id (x := p_T (m l0 k) l3 + p_T (m l0 (k + 1)) l5) (by omega) (by omega)]
  by_cases c4 : k = 4
  · rw [if_pos c4]
    rw [if_pos c4] at hp
    unfold p_e at hp
    exact ⟨H1.1, by have := H1.2; omega, e100 _ _ (by rw [w_64_id (by omega) (by omega)]; exact hp.symm)⟩
  · rw [if_neg c4]
    rw [if_neg c4] at hp
    unfold p_e at hp
    exact e100 _ _ (by rw [w_64_id (by omega) (by omega)]; exact hp.symm)
/-- every number of a product is near enough -/
def p_ok (x y : Int → Int) : Prop := ∀ k, 0 ≤ k → k < 6 → p_mul x y k = w_32 (p_mul x y k)
theorem c_mul (R0 : w_isR l0 ∧ w_isR l1 ∧ w_isR l2) (H0 : w_isA 0 l0 ∧ 6 ≤ w_ln l0) (H1 : w_isA 0 l1 ∧ 6 ≤ w_ln l1) (H2 : w_isA 0 l2 ∧ w_wr (w_G0 sC) (Int.toNat l2) ∧ 6 ≤ w_ln l2) (h02 : l0 ≠ l2)
    (hx : ∀ k, 0 ≤ k → k < 6 → p_32 (m l0 k)) (hy : ∀ k, 0 ≤ k → k < 6 → p_32 (m l1 k))
    (hQ : ∀ r m', (r = 1 ∧ p_ok (m l0) (m l1)) ∨ (r = 0 ∧ ¬ p_ok (m l0) (m l1)) → (∀ i j : Int, ¬ (i = l2 ∧ 0 ≤ j ∧ j < 6) → m' i j = m i j) → (∀ k, 0 ≤ k → k < 6 → m' l2 k = w_32 (p_mul (m l0) (m l1) k)) → Q r m') : xc_pa_multiply (d + 2) l0 l1 l2 m Q := by
  have g0 := H0.2
  have g1 := H1.2
  have g2 := H2.2.2
  obtain ⟨P, hP⟩ : ∃ P : Int → Int, P = p_mul (m l0) (m l1) := ⟨_, rfl⟩
  have P0 : P 0 = p_e (m l0 0) (m l0 1) (m l1 0) (m l1 2) 0 := by rw [hP]; rfl
  have P1 : P 1 = p_e (m l0 0) (m l0 1) (m l1 1) (m l1 3) 0 := by rw [hP]; rfl
  have P2 : P 2 = p_e (m l0 2) (m l0 3) (m l1 0) (m l1 2) 0 := by rw [hP]; rfl
  have P3 : P 3 = p_e (m l0 2) (m l0 3) (m l1 1) (m l1 3) 0 := by rw [hP]; rfl
  have P4 : P 4 = p_e (m l0 4) (m l0 5) (m l1 0) (m l1 2) (m l1 4) := by rw [hP]; rfl
  have P5 : P 5 = p_e (m l0 4) (m l0 5) (m l1 1) (m l1 3) (m l1 5) := by rw [hP]; rfl
  obtain ⟨m1, hm1⟩ : ∃ m1, m1 = w_up (w_up m l2 0 (w_32 (P 0))) l2 (0 + 1) (w_32 (P 1)) := ⟨_, rfl⟩
  obtain ⟨m2, hm2⟩ : ∃ m2, m2 = w_up (w_up m1 l2 2 (w_32 (P 2))) l2 (2 + 1) (w_32 (P 3)) := ⟨_, rfl⟩
  obtain ⟨m3, hm3⟩ : ∃ m3, m3 = w_up (w_up m2 l2 4 (w_32 (P 4))) l2 (4 + 1) (w_32 (P 5)) := ⟨_, rfl⟩
  have f1 : ∀ i j : Int, ¬ (i = l2 ∧ 0 ≤ j ∧ j < 2) → m1 i j = m i j := fun i j q => by
    rw [hm1]
    unfold w_up
    rw [if_neg (by omega), if_neg (by omega)]
  have f2 : ∀ i j : Int, ¬ (i = l2 ∧ 2 ≤ j ∧ j < 4) → m2 i j = m1 i j := fun i j q => by
    rw [hm2]
    unfold w_up
    rw [if_neg (by omega), if_neg (by omega)]
  have f3 : ∀ i j : Int, ¬ (i = l2 ∧ 4 ≤ j ∧ j < 6) → m3 i j = m2 i j := fun i j q => by
    rw [hm3]
    unfold w_up
    rw [if_neg (by omega), if_neg (by omega)]
  have v0 : m1 l2 0 = w_32 (P 0) := by rw [hm1, w_up_nb (by decide), w_up_eq]
  have v1 : m1 l2 1 = w_32 (P 1) := by rw [hm1]; exact w_up_eq
  have v2 : m2 l2 2 = w_32 (P 2) := by rw [hm2, w_up_nb (by decide), w_up_eq]
  have v3 : m2 l2 3 = w_32 (P 3) := by rw [hm2]; exact w_up_eq
  have v4 : m3 l2 4 = w_32 (P 4) := by rw [hm3, w_up_nb (by decide), w_up_eq]
  have v5 : m3 l2 5 = w_32 (P 5) := by rw [hm3]; exact w_up_eq
  have last : ∀ r : Int, (r = 0 ∨ r = 1) → (r = 1 ∧ p_ok (m l0) (m l1)) ∨ (r = 0 ∧ ¬ p_ok (m l0) (m l1)) → xp_pa_multiply_48 (d + 1) l0 l1 l2 (m l1 0) (m l1 1) (m l1 2) (m l1 3) r 6 m3 Q := fun r r01 hr => by
    apply xr_pa_multiply_48
    rw [if_neg (by decide)]
    refine ⟨r01, hQ r m3 hr (fun i j q => ?_) (fun k k0 k1 => ?_)⟩
    · rw [f3 i j (by omega), f2 i j (by omega), f1 i j (by omega)]
    · rw [← hP]
      have c : k = 0 ∨ k = 1 ∨ k = 2 ∨ k = 3 ∨ k = 4 ∨ k = 5 := by omega
      rcases c with c | c | c | c | c | c
      · rw [c, f3 _ _ (by omega), f2 _ _ (by omega)]; exact v0
      · rw [c, f3 _ _ (by omega), f2 _ _ (by omega)]; exact v1
      · rw [c, f3 _ _ (by omega)]; exact v2
      · rw [c, f3 _ _ (by omega)]; exact v3
      · rw [c]; exact v4
      · rw [c]; exact v5
  have ok_iff : p_ok (m l0) (m l1) ↔ ((P 0 = w_32 (P 0) ∧ P 1 = w_32 (P 1)) ∧ (P 2 = w_32 (P 2) ∧ P 3 = w_32 (P 3)) ∧ (P 4 = w_32 (P 4) ∧ P 5 = w_32 (P 5))) := by
    unfold p_ok
    rw [← hP]
    constructor
    · intro h
      exact ⟨⟨h 0 (by decide) (by decide), h 1 (by decide) (by decide)⟩, ⟨h 2 (by decide) (by decide), h 3 (by decide) (by decide)⟩, ⟨h 4 (by decide) (by decide), h 5 (by decide) (by decide)⟩⟩
    · intro ⟨⟨a0, a1⟩, ⟨a2, a3⟩, ⟨a4, a5⟩⟩ k k0 k1
      have c : k = 0 ∨ k = 1 ∨ k = 2 ∨ k = 3 ∨ k = 4 ∨ k = 5 := by omega
      rcases c with c | c | c | c | c | c
      · rw [c]; exact a0
      · rw [c]; exact a1
      · rw [c]; exact a2
      · rw [c]; exact a3
      · rw [c]; exact a4
      · rw [c]; exact a5
  have y0 := hy 0 (by decide) (by decide)
  have y1 := hy 1 (by decide) (by decide)
  have y2 := hy 2 (by decide) (by decide)
  have y3 := hy 3 (by decide) (by decide)
  have y4 := hy 4 (by decide) (by decide)
  have y5 := hy 5 (by decide) (by decide)
  apply xr_pa_multiply
  rw [if_neg (by omega), if_neg (by omega), if_neg (by omega)]
  refine ⟨R0.1, R0.2.1, R0.2.2, H1.1, by omega, H1.1, by omega, H1.1, by omega, H1.1, by omega, ?_⟩
  refine c_mrow H0 H1 H2 (Or.inl rfl) (hx 0 (by decide) (by decide)) (hx 1 (by decide) (by decide)) y0 y1 y2 y3 y4 y5 (P 0) (P 1) P0 P1 ?_
  rw [← hm1, show (0 : Int) + 2 = 2 by decide]
  refine c_mrow H0 H1 H2 (Or.inr (Or.inl rfl)) (by rw [f1 _ _ (by omega)]; exact hx 2 (by decide) (by decide)) (by rw [f1 _ _ (by omega)]; exact hx 3 (by decide) (by decide)) y0 y1 y2 y3 (by rw [f1 _ _ (by omega)]; exact y4) (by rw [f1 _ _ (by omega)]; exact y5) (P 2) (P 3) (by rw [f1 l0 2 (by omega), f1 l0 (2 + 1) (by omega)]; exact P2) (by rw [f1 l0 2 (by omega), f1 l0 (2 + 1) (by omega)]; exact P3) ?_
  rw [← hm2, show (2 : Int) + 2 = 4 by decide]
  refine c_mrow H0 H1 H2 (Or.inr (Or.inr rfl)) (by rw [f2 _ _ (by omega), f1 _ _ (by omega)]; exact hx 4 (by decide) (by decide)) (by rw [f2 _ _ (by omega), f1 _ _ (by omega)]; exact hx 5 (by decide) (by decide)) y0 y1 y2 y3 (by rw [f2 _ _ (by omega), f1 _ _ (by omega)]; exact y4) (by rw [f2 _ _ (by omega), f1 _ _ (by omega)]; exact y5) (P 4) (P 5)
    (by rw [f2 l0 4 (by omega), f2 l0 (4 + 1) (by omega), f2 l1 4 (by omega), f1 l0 4 (by omega), f1 l0 (4 + 1) (by omega), f1 l1 4 (by omega)]; exact P4) (by rw [f2 l0 4 (by omega), f2 l0 (4 + 1) (by omega), f2 l1 5 (by omega), f1 l0 4 (by omega), f1 l0 (4 + 1) (by omega), f1 l1 5 (by omega)]; exact P5) ?_
  rw [← hm3, show (4 : Int) + 2 = 6 by decide]
  by_cases c0 : P 0 = w_32 (P 0) ∧ P 1 = w_32 (P 1)
  · rw [if_neg (show ¬ (1 : Int) = 0 by decide), if_pos c0, if_neg (show ¬ (1 : Int) = 0 by decide)]
    by_cases c1 : P 2 = w_32 (P 2) ∧ P 3 = w_32 (P 3)
    · rw [if_pos c1, if_neg (show ¬ (1 : Int) = 0 by decide)]
      by_cases c2 : P 4 = w_32 (P 4) ∧ P 5 = w_32 (P 5)
      · rw [if_pos c2]
        exact last 1 (Or.inr rfl) (Or.inl ⟨rfl, ok_iff.mpr ⟨c0, c1, c2⟩⟩)
      · rw [if_neg c2]
        exact last 0 (Or.inl rfl) (Or.inr ⟨rfl, fun u => c2 (ok_iff.mp u).2.2⟩)
    · rw [if_neg c1, if_pos rfl]
      exact last 0 (Or.inl rfl) (Or.inr ⟨rfl, fun u => c1 (ok_iff.mp u).2.1⟩)
  · rw [if_neg (show ¬ (1 : Int) = 0 by decide), if_neg c0, if_pos rfl, if_pos rfl]
    exact last 0 (Or.inl rfl) (Or.inr ⟨rfl, fun u => c0 (ok_iff.mp u).1⟩)
/- the reference -/
theorem r_mrow (H1 : w_isA 0 l1 ∧ 6 ≤ w_ln l1 ∧ l1 ≠ 478) (H2 : w_isA 0 l2 ∧ 6 ≤ w_ln l2 ∧ l2 ≠ 478) (hk : k = 0 ∨ k = 2 ∨ k = 4) (hx0 : p_32 (n l1 k)) (hx1 : p_32 (n l1 (k + 1))) (hy : ∀ k, 0 ≤ k → k < 6 → p_32 (n l2 k))
    (p q : Int) (hp : p = p_e (n l1 k) (n l1 (k + 1)) (n l2 0) (n l2 2) (if k = 4 then n l2 4 else 0)) (hq : q = p_e (n l1 k) (n l1 (k + 1)) (n l2 1) (n l2 3) (if k = 4 then n l2 5 else 0))
    (hQ : xp_m_product_3 (d + 1) l1 l2 l3 (k + 2) (w_up (w_up n 478 k p) 478 (k + 1) q) Q) : xp_m_product_3 (d + 1) l1 l2 l3 k n Q := by
  have k1 : w_32 (k + 1) = k + 1 := w_32_id (by omega) (by omega)
  have k2 : w_32 (k + 2) = k + 2 := w_32_id (by omega) (by omega)
  have y0 := hy 0 (by decide) (by decide)
  have y1 := hy 1 (by decide) (by decide)
  have y2 := hy 2 (by decide) (by decide)
  have y3 := hy 3 (by decide) (by decide)
  have y4 := hy 4 (by decide) (by decide)
  have y5 := hy 5 (by decide) (by decide)
  have t1 := p_T_b hx0 y0
  have t2 := p_T_b hx1 y2
  have t3 := p_T_b hx0 y1
  have t4 := p_T_b hx1 y3
  have z4 := y4
  have z5 := y5
  unfold p_32 at z4 z5
  have g1 := H1.2.1
  have g2 := H2.2.1
  have e56 : ∀ s2 s3 : Int, w_64 (s2 + s3) = p → xp_m_product_56 (d + 1) l1 l2 l3 k k s2 s3 n Q := fun s2 s3 hs => by
    apply xr_m_product_56
    rw [hs, k1, k2, w_up_ne H1.2.2, w_up_ne H2.2.2]
    refine ⟨by omega, H1.1, by omega, H2.1, by omega, ?_⟩
    apply xr_m_times
    rw [p_T_w hx0 y1, w_up_ne H1.2.2, w_up_ne H2.2.2]
    refine ⟨H1.1, by omega, H2.1, by omega, ?_⟩
    apply xr_m_times
    rw [p_T_w hx1 y3, w_up_ne H2.2.2, w_64_id (x := p_T (n l1 k) (n l2 1) + p_T (n l1 (k + 1)) (n l2 3)) (by omega) (by omega)]
    by_cases c4 : k = 4
    · rw [if_pos c4]
      rw [if_pos c4] at hq
      unfold p_e at hq
      rw [w_64_id (by omega) (by omega), ← hq]
      exact ⟨H2.1, by omega, by omega, hQ⟩
    · rw [if_neg c4]
      rw [if_neg c4] at hq
      unfold p_e at hq
      rw [w_64_id (by omega) (by omega), ← hq]
      exact ⟨by omega, hQ⟩
  apply xr_m_product_3
  rw [if_pos (by omega), k1]
  refine ⟨H1.1, by omega, H2.1, by omega, ?_⟩
  apply xr_m_times
  rw [p_T_w hx0 y0]
  refine ⟨H1.1, by omega, H2.1, by omega, ?_⟩
  apply xr_m_times
  rw [p_T_w hx1 y2, w_64_id (x := p_T (n l1 k) (n l2 0) + p_T (n l1 (k + 1)) (n l2 2)) (by omega) (by omega)]
  by_cases c4 : k = 4
  · rw [if_pos c4]
    rw [if_pos c4] at hp
    unfold p_e at hp
    exact ⟨H2.1, by omega, e56 _ _ (by rw [w_64_id (by omega) (by omega)]; exact hp.symm)⟩
  · rw [if_neg c4]
    rw [if_neg c4] at hp
    unfold p_e at hp
    exact e56 _ _ (by rw [w_64_id (by omega) (by omega)]; exact hp.symm)
theorem p_near : (a = w_32 a) ↔ (-2147483648 ≤ a ∧ a ≤ 2147483647) := by
  constructor
  · intro h
    have := w_32_r a
    omega
  · intro h
    exact (w_32_id h.1 (by omega)).symm
/-- all near: nothing happens; one far: fault 14 -/
theorem r_near (h0 : n 428 27 = 0) : ∀ (K : Nat) (i : Int) (n1 : w_M), i + K = 6 → 0 ≤ i → (n1 = n ∧ ∀ j, 0 ≤ j → j < i → n 478 j = w_32 (n 478 j)) ∨ (n1 = m_fl n 14 (n 428 106) ∧ ∃ j, 0 ≤ j ∧ j < 6 ∧ n 478 j ≠ w_32 (n 478 j)) →
    ((∀ j, 0 ≤ j → j < 6 → n 478 j = w_32 (n 478 j)) → xp_m_product_146 (d + 2) l3 0 n Q) → ((∃ j, 0 ≤ j ∧ j < 6 ∧ n 478 j ≠ w_32 (n 478 j)) → xp_m_product_146 (d + 2) l3 0 (m_fl n 14 (n 428 106)) Q) → xp_m_product_119 (d + 2) l3 i n1 Q := by
  intro K
  induction K with
  | zero =>
    intro i n1 hi i0 hs h1 h2
    apply xr_m_product_119
    rw [if_neg (by omega)]
    rcases hs with ⟨e, hj⟩ | ⟨e, hj⟩
    · rw [e]; exact h1 (fun j j0 j1 => hj j j0 (by omega))
    · rw [e]; exact h2 hj
  | succ K ih =>
    intro i n1 hi i0 hs h1 h2
    have f478 : n1 478 i = n 478 i := by
      rcases hs with ⟨e, hj⟩ | ⟨e, hj⟩
      · rw [e]
      · rw [e]; exact m_fl_o (by omega)
    have f106 : n1 428 106 = n 428 106 := by
      rcases hs with ⟨e, hj⟩ | ⟨e, hj⟩
      · rw [e]
      · rw [e]; exact m_fl_o (by omega)
    have far : n 478 i ≠ w_32 (n 478 i) → xc_m_fail (d + 1) 14 (n1 428 106) n1 (fun _ n2 => xp_m_product_119 (d + 2) l3 (i + 1) n2 Q) := fun q => by
      refine sp_m_fail (d := d) ?_
      refine ih (i + 1) _ (by omega) (by omega) (Or.inr ⟨?_, i, i0, by omega, q⟩) h1 h2
      rcases hs with ⟨e, hj⟩ | ⟨e, hj⟩
      · rw [e]
      · rw [f106, e]
        unfold m_fl
        rw [if_pos h0, if_neg ?_]
        rw [w_up_nb (by decide), w_up_eq]
        decide
    apply xr_m_product_119
    rw [if_pos (by omega), w_32_id (x := i + 1) (by omega) (by omega), f478]
    refine ⟨by omega, ?_⟩
    apply xr_m_near
    have pn := p_near (a := n 478 i)
    refine z_ite (fun q => far (fun u => by have := pn.mp u; omega)) (fun q => z_ite (fun q2 => far (fun u => by have := pn.mp u; omega)) (fun q2 => ?_))
    refine ih (i + 1) n1 (by omega) (by omega) ?_ h1 h2
    rcases hs with ⟨e, hj⟩ | ⟨e, hj⟩
    · refine Or.inl ⟨e, fun j j0 j1 => ?_⟩
      by_cases z : j = i
      · rw [z]; exact pn.mpr (by omega)
      · exact hj j j0 (by omega)
    · exact Or.inr ⟨e, hj⟩
theorem r_sto (H3 : w_isA 0 l3 ∧ w_wr (w_G0 sM) (Int.toNat l3) ∧ 6 ≤ w_ln l3 ∧ l3 ≠ 478 ∧ l3 ≠ 428) (h0 : n 428 27 = 0) : ∀ (K : Nat) (i : Int) (n1 : w_M), i + K = 6 → 0 ≤ i → (∀ a b : Int, ¬ (a = l3 ∧ 0 ≤ b ∧ b < 6) → n1 a b = n a b) → (∀ j, 0 ≤ j → j < i → n1 l3 j = w_32 (n 478 j)) →
    (∀ n', (∀ a b : Int, ¬ (a = l3 ∧ 0 ≤ b ∧ b < 6) → n' a b = n a b) → (∀ j, 0 ≤ j → j < 6 → n' l3 j = w_32 (n 478 j)) → Q 0 n') → xp_m_product_146 (d + 1) l3 i n1 Q := by
  intro K
  induction K with
  | zero =>
    intro i n1 hi i0 hf hx hQ
    apply xr_m_product_146
    rw [if_neg (by omega)]
    exact hQ n1 hf (fun j j0 j1 => hx j j0 (by omega))
  | succ K ih =>
    intro i n1 hi i0 hf hx hQ
    have g3 := H3.2.2.1
    apply xr_m_product_146
    rw [if_pos (by omega), w_32_id (x := i + 1) (by omega) (by omega)]
    refine sp_m_good (d := d) ?_
    rw [show f_m_good n1 = 1 from if_pos (by rw [hf _ _ (fun u => H3.2.2.2.2 u.1.symm)]; exact h0), if_neg (show ¬ (1 : Int) = 0 by decide), hf 478 i (fun u => H3.2.2.2.1 u.1.symm)]
    refine ⟨by omega, H3.1, H3.2.1, by omega, ih (i + 1) _ (by omega) (by omega) (fun a b q => ?_) (fun j j0 j1 => ?_) hQ⟩
    · unfold w_up
      rw [if_neg (by omega)]
      exact hf a b q
    · by_cases z : j = i
      · rw [z, w_up_eq]
      · rw [w_up_nb z]; exact hx j j0 (by omega)
theorem r_prod (H1 : w_isA 0 l1 ∧ 6 ≤ w_ln l1 ∧ l1 ≠ 478) (H2 : w_isA 0 l2 ∧ 6 ≤ w_ln l2 ∧ l2 ≠ 478) (H3 : w_isA 0 l3 ∧ w_wr (w_G0 sM) (Int.toNat l3) ∧ 6 ≤ w_ln l3 ∧ l3 ≠ 478 ∧ l3 ≠ 428) (h0 : n 428 27 = 0)
    (hx : ∀ k, 0 ≤ k → k < 6 → p_32 (n l1 k)) (hy : ∀ k, 0 ≤ k → k < 6 → p_32 (n l2 k))
    (hQ1 : p_ok (n l1) (n l2) → ∀ n', (∀ i j : Int, i ≠ 478 → ¬ (i = l3 ∧ 0 ≤ j ∧ j < 6) → n' i j = n i j) → (∀ k, 0 ≤ k → k < 6 → n' l3 k = w_32 (p_mul (n l1) (n l2) k)) → Q 0 n')
    (hQ2 : ¬ p_ok (n l1) (n l2) → ∀ n', (∀ i j : Int, i ≠ 478 → ¬ (i = 428 ∧ (j = 27 ∨ j = 28)) → n' i j = n i j) → n' 428 27 = 14 → n' 428 28 = n 428 106 → Q 0 n') : xc_m_product (d + 3) l1 l2 l3 n Q := by
  obtain ⟨P, hP⟩ : ∃ P : Int → Int, P = p_mul (n l1) (n l2) := ⟨_, rfl⟩
  have P0 : P 0 = p_e (n l1 0) (n l1 1) (n l2 0) (n l2 2) 0 := by rw [hP]; rfl
  have P1 : P 1 = p_e (n l1 0) (n l1 1) (n l2 1) (n l2 3) 0 := by rw [hP]; rfl
  have P2 : P 2 = p_e (n l1 2) (n l1 3) (n l2 0) (n l2 2) 0 := by rw [hP]; rfl
  have P3 : P 3 = p_e (n l1 2) (n l1 3) (n l2 1) (n l2 3) 0 := by rw [hP]; rfl
  have P4 : P 4 = p_e (n l1 4) (n l1 5) (n l2 0) (n l2 2) (n l2 4) := by rw [hP]; rfl
  have P5 : P 5 = p_e (n l1 4) (n l1 5) (n l2 1) (n l2 3) (n l2 5) := by rw [hP]; rfl
  obtain ⟨n1, hn1⟩ : ∃ n1, n1 = w_up (w_up n 478 0 (P 0)) 478 (0 + 1) (P 1) := ⟨_, rfl⟩
  obtain ⟨n2, hn2⟩ : ∃ n2, n2 = w_up (w_up n1 478 2 (P 2)) 478 (2 + 1) (P 3) := ⟨_, rfl⟩
  obtain ⟨n3, hn3⟩ : ∃ n3, n3 = w_up (w_up n2 478 4 (P 4)) 478 (4 + 1) (P 5) := ⟨_, rfl⟩
  have f1 : ∀ i j : Int, ¬ (i = 478 ∧ 0 ≤ j ∧ j < 2) → n1 i j = n i j := fun i j q => by
    rw [hn1]
    unfold w_up
    rw [if_neg (by omega), if_neg (by omega)]
  have f2 : ∀ i j : Int, ¬ (i = 478 ∧ 2 ≤ j ∧ j < 4) → n2 i j = n1 i j := fun i j q => by
    rw [hn2]
    unfold w_up
    rw [if_neg (by omega), if_neg (by omega)]
  have f3 : ∀ i j : Int, ¬ (i = 478 ∧ 4 ≤ j ∧ j < 6) → n3 i j = n2 i j := fun i j q => by
    rw [hn3]
    unfold w_up
    rw [if_neg (by omega), if_neg (by omega)]
  have far : ∀ i j : Int, i ≠ 478 → n3 i j = n i j := fun i j q => by rw [f3 i j (by omega), f2 i j (by omega), f1 i j (by omega)]
  have S : ∀ k, 0 ≤ k → k < 6 → n3 478 k = P k := fun k k0 k1 => by
    have c : k = 0 ∨ k = 1 ∨ k = 2 ∨ k = 3 ∨ k = 4 ∨ k = 5 := by omega
    rcases c with c | c | c | c | c | c
    · rw [c, f3 _ _ (by omega), f2 _ _ (by omega), hn1, w_up_nb (by decide), w_up_eq]
    · rw [c, f3 _ _ (by omega), f2 _ _ (by omega), hn1]; exact w_up_eq
    · rw [c, f3 _ _ (by omega), hn2, w_up_nb (by decide), w_up_eq]
    · rw [c, f3 _ _ (by omega), hn2]; exact w_up_eq
    · rw [c, hn3, w_up_nb (by decide), w_up_eq]
    · rw [c, hn3]; exact w_up_eq
  have n1l : ∀ k, n1 l1 k = n l1 k := fun k => f1 _ _ (fun u => H1.2.2 u.1)
  have n1r : ∀ k, n1 l2 k = n l2 k := fun k => f1 _ _ (fun u => H2.2.2 u.1)
  have n2l : ∀ k, n2 l1 k = n l1 k := fun k => by rw [f2 _ _ (fun u => H1.2.2 u.1)]; exact n1l k
  have n2r : ∀ k, n2 l2 k = n l2 k := fun k => by rw [f2 _ _ (fun u => H2.2.2 u.1)]; exact n1r k
  apply xr_m_product
  refine r_mrow (d := d + 1) H1 H2 (Or.inl rfl) (hx 0 (by decide) (by decide)) (hx 1 (by decide) (by decide)) hy (P 0) (P 1) P0 P1 ?_
  rw [← hn1, show (0 : Int) + 2 = 2 by decide]
  refine r_mrow (d := d + 1) H1 H2 (Or.inr (Or.inl rfl)) (by rw [n1l]; exact hx 2 (by decide) (by decide)) (by rw [n1l]; exact hx 3 (by decide) (by decide)) (fun k k0 k1 => by rw [n1r]; exact hy k k0 k1) (P 2) (P 3) (by rw [n1l, n1l, n1r, n1r]; exact P2) (by rw [n1l, n1l, n1r, n1r]; exact P3) ?_
  rw [← hn2, show (2 : Int) + 2 = 4 by decide]
  refine r_mrow (d := d + 1) H1 H2 (Or.inr (Or.inr rfl)) (by rw [n2l]; exact hx 4 (by decide) (by decide)) (by rw [n2l]; exact hx 5 (by decide) (by decide)) (fun k k0 k1 => by rw [n2r]; exact hy k k0 k1) (P 4) (P 5) (by rw [n2l, n2l, n2r, n2r, n2r]; exact P4) (by rw [n2l, n2l, n2r, n2r, n2r]; exact P5) ?_
  rw [← hn3, show (4 : Int) + 2 = 6 by decide]
  apply xr_m_product_3
  rw [if_neg (by decide)]
  have h3 : n3 428 27 = 0 := by rw [far _ _ (by decide)]; exact h0
  refine r_near (d := d) h3 6 0 n3 (by decide) (by decide) (Or.inl ⟨rfl, fun j j0 j1 => by omega⟩) (fun ok => ?_) (fun bad => ?_)
  · have ok' : p_ok (n l1) (n l2) := fun k k0 k1 => by
      have := ok k k0 k1
      rw [S k k0 k1, hP] at this
      exact this
    refine r_sto (d := d + 1) H3 h3 6 0 n3 (by decide) (by decide) (fun _ _ _ => rfl) (fun j j0 j1 => by omega) (fun n' f' v' => hQ1 ok' n' (fun i j q1 q2 => by rw [f' i j q2]; exact far i j q1) (fun k k0 k1 => by rw [v' k k0 k1, S k k0 k1, hP]))
  · have nok : ¬ p_ok (n l1) (n l2) := fun u => by
      obtain ⟨j, j0, j1, j2⟩ := bad
      rw [S j j0 j1, hP] at j2
      exact j2 (u j j0 j1)
    have e27 : m_fl n3 14 (n3 428 106) 428 27 = 14 := by
      unfold m_fl
      rw [if_pos h3, w_up_nb (by decide), w_up_eq]
    apply xr_m_product_146
    rw [if_pos (by decide)]
    refine sp_m_good (d := d + 1) ?_
    rw [show f_m_good (m_fl n3 14 (n3 428 106)) = 0 from if_neg (by rw [e27]; decide), if_pos rfl]
    refine hQ2 nok _ (fun i j q1 q2 => by rw [m_fl_o q2]; exact far i j q1) e27 ?_
    unfold m_fl
    rw [if_pos h3, w_up_eq, far _ _ (by decide)]
end PM
