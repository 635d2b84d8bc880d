/-! ===== the painter: moves and lines, both sides ===== -/
def p_cm (a : Int) : Prop := a = 408 ∨ a = 410 ∨ a = 411 ∨ a = 412 ∨ a = 413
def p_rm (a : Int) : Prop := a = 474 ∨ a = 475 ∨ a = 476 ∨ a = 477
/-- six numbers go into a row -/
noncomputable def p_put (m : w_M) (a : Int) (P : Int → Int) : w_M := fun i j => if i = a ∧ 0 ≤ j ∧ j < 6 then w_32 (P j) else m i j
/-- the matrix that moves by a, b -/
def p_gv (a b k : Int) : Int := if k = 0 ∨ k = 3 then 65536 else if k = 4 then a else if k = 5 then b else 0
/-- the matrices alike -/
def p_M (m n : w_M) : Prop := ∀ k, 0 ≤ k → k < 6 → (m 408 k = n 474 k ∧ p_32 (n 474 k)) ∧ (m 410 k = n 475 k ∧ p_32 (n 475 k)) ∧ (m 411 k = n 476 k ∧ p_32 (n 476 k))
def p_cf (m m' : w_M) : Prop := ∀ i j : Int, ¬ (410 ≤ i ∧ i ≤ 412) → m' i j = m i j
def p_nf (n n' : w_M) : Prop := ∀ i j : Int, ¬ (475 ≤ i ∧ i ≤ 478) → ¬ (i = 428 ∧ (j = 27 ∨ j = 28)) → n' i j = n i j
section PN
variable {d e : Nat} {m m' m0 m1 n n' n0 n1 : w_M} {Q : Int → w_M → Prop} {a b v w k l0 l1 l2 l3 : Int}
theorem p_cH (h : p_cm a) : w_isR a ∧ w_isA 0 a ∧ w_wr (w_G0 sC) a.toNat ∧ 6 ≤ w_ln a := by
  rcases h with rfl | rfl | rfl | rfl | rfl
  · exact ⟨⟨0, 12, s0_408, by decide, by decide⟩, ⟨12, s0_408⟩, w_EC (by decide), by rw [w_ln_eq s0_408]; decide⟩
  · exact ⟨⟨0, 6, s0_410, by decide, by decide⟩, ⟨6, s0_410⟩, w_EC (by decide), by rw [w_ln_eq s0_410]; decide⟩
  · exact ⟨⟨0, 6, s0_411, by decide, by decide⟩, ⟨6, s0_411⟩, w_EC (by decide), by rw [w_ln_eq s0_411]; decide⟩
  · exact ⟨⟨0, 6, s0_412, by decide, by decide⟩, ⟨6, s0_412⟩, w_EC (by decide), by rw [w_ln_eq s0_412]; decide⟩
  · exact ⟨⟨0, 6, s0_413, by decide, by decide⟩, ⟨6, s0_413⟩, w_EC (by decide), by rw [w_ln_eq s0_413]; decide⟩
theorem p_rH (h : p_rm a) : w_isA 0 a ∧ w_wr (w_G0 sM) a.toNat ∧ 6 ≤ w_ln a ∧ a ≠ 478 ∧ a ≠ 428 := by
  rcases h with rfl | rfl | rfl | rfl
  · exact ⟨⟨6, s0_474⟩, w_EM (by decide), by rw [w_ln_eq s0_474]; decide, by decide, by decide⟩
  · exact ⟨⟨6, s0_475⟩, w_EM (by decide), by rw [w_ln_eq s0_475]; decide, by decide, by decide⟩
  · exact ⟨⟨6, s0_476⟩, w_EM (by decide), by rw [w_ln_eq s0_476]; decide, by decide, by decide⟩
  · exact ⟨⟨6, s0_477⟩, w_EM (by decide), by rw [w_ln_eq s0_477]; decide, by decide, by decide⟩
theorem p_mul_eq {x y x' y' : Int → Int} (hx : ∀ k, 0 ≤ k → k < 6 → x k = x' k) (hy : ∀ k, 0 ≤ k → k < 6 → y k = y' k) (k0 : 0 ≤ k) (k1 : k < 6) : p_mul x y k = p_mul x' y' k := by
  unfold p_mul
  rw [hy 0 (by decide) (by decide), hy 1 (by decide) (by decide), hy 2 (by decide) (by decide), hy 3 (by decide) (by decide), hy 4 (by decide) (by decide), hy 5 (by decide) (by decide)]
  by_cases q : k % 2 = 0
  · rw [if_pos q, if_pos q, hx k k0 k1, hx (k + 1) (by omega) (by omega)]
  · rw [if_neg q, if_neg q, hx k k0 k1, hx (k - 1) (by omega) (by omega)]
theorem p_ok_eq {x y x' y' : Int → Int} (hx : ∀ k, 0 ≤ k → k < 6 → x k = x' k) (hy : ∀ k, 0 ≤ k → k < 6 → y k = y' k) : p_ok x y ↔ p_ok x' y' := by
  unfold p_ok
  exact ⟨fun h k k0 k1 => by rw [← p_mul_eq hx hy k0 k1]; exact h k k0 k1, fun h k k0 k1 => by rw [p_mul_eq hx hy k0 k1]; exact h k k0 k1⟩
theorem c_mulp (h0 : p_cm l0) (h1 : p_cm l1) (h2 : p_cm l2) (h02 : l0 ≠ l2) (hx : ∀ k, 0 ≤ k → k < 6 → p_32 (m l0 k)) (hy : ∀ k, 0 ≤ k → k < 6 → p_32 (m l1 k))
    (hQ1 : p_ok (m l0) (m l1) → Q 1 (p_put m l2 (p_mul (m l0) (m l1)))) (hQ0 : ¬ p_ok (m l0) (m l1) → Q 0 (p_put m l2 (p_mul (m l0) (m l1)))) : xc_pa_multiply (d + 2) l0 l1 l2 m Q := by
  obtain ⟨a1, a2, a3, a4⟩ := p_cH h0
  obtain ⟨b1, b2, b3, b4⟩ := p_cH h1
  obtain ⟨c1, c2, c3, c4⟩ := p_cH h2
  refine c_mul (d := d) ⟨a1, b1, c1⟩ ⟨a2, a4⟩ ⟨b2, b4⟩ ⟨c2, c3, c4⟩ h02 hx hy (fun r m' hr hf hv => ?_)
  have e : m' = p_put m l2 (p_mul (m l0) (m l1)) := funext (fun i => funext (fun j => by
    unfold p_put
    by_cases q : i = l2 ∧ 0 ≤ j ∧ j < 6
    · rw [if_pos q, q.1]; exact hv j q.2.1 q.2.2
    · rw [if_neg q]; exact hf i j q))
  rw [e]
  rcases hr with ⟨r1, r2⟩ | ⟨r1, r2⟩
  · rw [r1]; exact hQ1 r2
  · rw [r1]; exact hQ0 r2
theorem r_ident (H : p_rm l0) (hQ : ∀ n', (∀ i j : Int, i ≠ l0 → n' i j = n i j) → (∀ k, 0 ≤ k → k < 6 → n' l0 k = p_gv 0 0 k) → Q 0 n') : xc_m_identity (d + 1) l0 n Q := by
  obtain ⟨a1, a2, a3, a4, a5⟩ := p_rH H
  have key : ∀ (K : Nat) (i : Int) (n1 : w_M), i + K = 6 → 0 ≤ i → (∀ a b : Int, a ≠ l0 → n1 a b = n a b) → (∀ j, 0 ≤ j → j < i → n1 l0 j = p_gv 0 0 j) → xp_m_identity_2 d l0 i n1 Q := by
    intro K
    induction K with
    | zero =>
      intro i n1 hi i0 hf hx
      apply xr_m_identity_2
      rw [if_neg (by omega)]
      exact hQ n1 hf (fun j j0 j1 => hx j j0 (by omega))
    | succ K ih =>
      intro i n1 hi i0 hf hx
      have step : ∀ x : Int, x = p_gv 0 0 i → (w_isA 0 l0 ∧ w_wr (w_G0 sM) (Int.toNat l0) ∧ ((0 : Int) ≤ i ∧ i < w_ln l0) ∧ (xp_m_identity_2 d l0 (i + 1) (w_up n1 l0 i x) Q)) := fun x ex => by
        refine ⟨a1, a2, by omega, ih (i + 1) _ (by omega) (by omega) (fun a b q => by rw [w_up_ne q]; exact hf a b q) (fun j j0 j1 => ?_)⟩
        by_cases z : j = i
        · rw [z, w_up_eq]; exact ex
        · rw [w_up_nb z]; exact hx j j0 (by omega)
      apply xr_m_identity_2
      rw [if_pos (by omega), w_32_id (x := i + 1) (by omega) (by omega)]
      refine z_ite (fun q => step _ ?_) (fun q => z_ite (fun q2 => step _ ?_) (fun q2 => step _ ?_))
      · unfold p_gv; rw [if_pos (Or.inl q)]
      · unfold p_gv; rw [if_pos (Or.inr q2)]
      · unfold p_gv; rw [if_neg (by omega)]
        by_cases z : i = 4
        · rw [if_pos z]
        · rw [if_neg z]
          by_cases z5 : i = 5
          · rw [if_pos z5]
          · rw [if_neg z5]
  apply xr_m_identity
  exact key 6 0 n (by decide) (by decide) (fun _ _ _ => rfl) (fun j j0 j1 => by omega)
theorem p_gv_32 (ha : p_32 a) (hb : p_32 b) : p_32 (p_gv a b k) := by
  unfold p_gv
  by_cases q : k = 0 ∨ k = 3
  · rw [if_pos q]; unfold p_32; decide
  · rw [if_neg q]
    by_cases q4 : k = 4
    · rw [if_pos q4]; exact ha
    · rw [if_neg q4]
      by_cases q5 : k = 5
      · rw [if_pos q5]; exact hb
      · rw [if_neg q5]; unfold p_32; decide
/-- the class gives a moving matrix -/
theorem c_give {v w : Int} : ∃ m0, (∀ X : Int → w_M → Prop, X 0 m0 → xc_pa_give (d + 1) 65536 0 0 65536 v w m X) ∧ (∀ i j : Int, i ≠ 412 → m0 i j = m i j) ∧ ∀ k, 0 ≤ k → k < 6 → m0 412 k = p_gv v w k := by
  obtain ⟨m0, h0⟩ : ∃ m0, m0 = w_up (w_up (w_up (w_up (w_up (w_up m 412 0 65536) 412 1 0) 412 2 0) 412 3 65536) 412 4 v) 412 5 w := ⟨_, rfl⟩
  refine ⟨m0, fun X hX => ?_, fun i j q => ?_, fun k k0 k1 => ?_⟩
  · apply xr_pa_give
    rw [← h0]
    exact hX
  · rw [h0, w_up_ne q, w_up_ne q, w_up_ne q, w_up_ne q, w_up_ne q, w_up_ne q]
  · have c : k = 0 ∨ k = 1 ∨ k = 2 ∨ k = 3 ∨ k = 4 ∨ k = 5 := by omega
    rcases c with c | c | c | c | c | c
    · rw [c, h0, w_up_nb (by decide), w_up_nb (by decide), w_up_nb (by decide), w_up_nb (by decide), w_up_nb (by decide), w_up_eq]; rfl
    · rw [c, h0, w_up_nb (by decide), w_up_nb (by decide), w_up_nb (by decide), w_up_nb (by decide), w_up_eq]; rfl
    · rw [c, h0, w_up_nb (by decide), w_up_nb (by decide), w_up_nb (by decide), w_up_eq]; rfl
    · rw [c, h0, w_up_nb (by decide), w_up_nb (by decide), w_up_eq]; rfl
    · rw [c, h0, w_up_nb (by decide), w_up_eq]; rfl
    · rw [c, h0, w_up_eq]; rfl
/-- a row behind a product -/
theorem p_put_v {P : Int → Int} (k0 : 0 ≤ k) (k1 : k < 6) : p_put m a P a k = w_32 (P k) := if_pos ⟨rfl, k0, k1⟩
theorem p_put_o {P : Int → Int} {i j : Int} (h : i ≠ a) : p_put m a P i j = m i j := if_neg (fun u => h u.1)
theorem p_w32 {x : Int} : p_32 (w_32 x) := by
  have := w_32_r x
  unfold p_32
  omega
/-- the text moves on by v -/
theorem s_moves (hM : p_M m n) (h27 : n 428 27 = 0) : xc_m_moves (e + 4) v n (fun _ n1 => ∃ r m1, (∀ X : Int → w_M → Prop, X r m1 → xc_pa_advance (d + 3) v m X) ∧ p_cf m m1 ∧ p_nf n n1 ∧
    ((r = 1 ∧ n1 428 27 = 0 ∧ p_M m1 n1) ∨ (r = 0 ∧ n1 428 27 = 14 ∧ n1 428 28 = n 428 106))) := by
  have pn := p_near (a := v)
  by_cases hv : v = w_32 v
  · have v32 : p_32 v := by have := pn.mp hv; unfold p_32; omega
    obtain ⟨m0, g1, g2, g3⟩ := c_give (d := d + 1) (m := m) (v := w_32 v) (w := 0)
    rw [← hv] at g1 g3
    have z32 : p_32 0 := by unfold p_32; decide
    have good1 : ∀ x : w_M, x 428 27 = 0 → f_m_good x = 1 := fun x e => if_pos e
    apply xr_m_moves
    apply xr_m_near
    have := pn.mp hv
    rw [if_neg (by omega), if_neg (by omega)]
    refine sp_m_good (d := e + 2) ?_
    rw [good1 n h27, if_neg (show ¬ (1 : Int) = 0 by decide)]
    refine r_ident (d := e + 2) (Or.inr (Or.inr (Or.inr rfl))) (fun na f1 f2 => ?_)
    obtain ⟨nb, hnb⟩ : ∃ nb, nb = w_up na 477 4 (w_32 v) := ⟨_, rfl⟩
    rw [← hnb]
    have fb : ∀ i j : Int, i ≠ 477 → nb i j = n i j := fun i j q => by rw [hnb, w_up_ne q]; exact f1 i j q
    have vb : ∀ k, 0 ≤ k → k < 6 → nb 477 k = p_gv v 0 k := fun k k0 k1 => by
      rw [hnb]
      by_cases z : k = 4
      · rw [z, w_up_eq, ← hv]; rfl
      · rw [w_up_nb z, f2 k k0 k1]
        unfold p_gv
        rw [if_neg z, if_neg z]
    have eX : ∀ k, 0 ≤ k → k < 6 → m0 412 k = nb 477 k := fun k k0 k1 => by rw [g3 k k0 k1, vb k k0 k1]
    have eY : ∀ k, 0 ≤ k → k < 6 → m0 410 k = nb 475 k := fun k k0 k1 => by rw [g2 410 k (by decide), fb 475 k (by decide)]; exact (hM k k0 k1).2.1.1
    have xX : ∀ k, 0 ≤ k → k < 6 → p_32 (nb 477 k) := fun k k0 k1 => by rw [vb k k0 k1]; exact p_gv_32 v32 z32
    have xY : ∀ k, 0 ≤ k → k < 6 → p_32 (nb 475 k) := fun k k0 k1 => by rw [fb 475 k (by decide)]; exact (hM k k0 k1).2.1.2
    have okk := p_ok_eq (x := m0 412) (y := m0 410) (x' := nb 477) (y' := nb 475) eX eY
    have run : ∀ X : Int → w_M → Prop, (p_ok (m0 412) (m0 410) → X 1 (p_put m0 410 (p_mul (m0 412) (m0 410)))) → (¬ p_ok (m0 412) (m0 410) → X 0 (p_put m0 410 (p_mul (m0 412) (m0 410)))) → xc_pa_advance (d + 3) v m X := fun X x1 x2 => by
      apply xr_pa_advance
      rw [if_pos hv, ← hv]
      refine g1 _ ?_
      exact c_mulp (d := d) (Or.inr (Or.inr (Or.inr (Or.inl rfl)))) (Or.inr (Or.inl rfl)) (Or.inr (Or.inl rfl)) (by decide) (fun k k0 k1 => by rw [eX k k0 k1]; exact xX k k0 k1) (fun k k0 k1 => by rw [eY k k0 k1]; exact xY k k0 k1) (fun ok => ⟨Or.inr rfl, x1 ok⟩) (fun ok => ⟨Or.inl rfl, x2 ok⟩)
    have cf : p_cf m (p_put m0 410 (p_mul (m0 412) (m0 410))) := fun i j q => by rw [p_put_o (by omega), g2 i j (by omega)]
    obtain ⟨a1, a2, a3, a4, a5⟩ := p_rH (a := 477) (Or.inr (Or.inr (Or.inr rfl)))
    obtain ⟨b1, b2, b3, b4, b5⟩ := p_rH (a := 475) (Or.inr (Or.inl rfl))
    refine r_prod (d := e) ⟨a1, a3, a4⟩ ⟨b1, b3, b4⟩ ⟨b1, b2, b3, b4, b5⟩ (by rw [fb _ _ (by decide)]; exact h27) xX xY (fun ok n' w1 w2 => ?_) (fun ok n' w1 w2 w3 => ?_)
    · refine ⟨1, _, fun X hX => run X (fun _ => hX) (fun u => absurd (okk.mpr ok) u), cf, fun i j q1 q2 => by rw [w1 i j (by omega) (by omega), fb i j (by omega)], Or.inl ⟨rfl, by rw [w1 _ _ (by decide) (by decide), fb _ _ (by decide)]; exact h27, fun k k0 k1 => ⟨?_, ?_, ?_⟩⟩⟩
      · rw [p_put_o (by decide), g2 408 k (by decide), w1 474 k (by decide) (by omega), fb 474 k (by decide)]
        exact (hM k k0 k1).1
      · rw [p_put_v k0 k1, w2 k k0 k1, p_mul_eq eX eY k0 k1]
        exact ⟨rfl, p_w32⟩
      · rw [p_put_o (by decide), g2 411 k (by decide), w1 476 k (by decide) (by omega), fb 476 k (by decide)]
        exact (hM k k0 k1).2.2
    · refine ⟨0, _, fun X hX => run X (fun u => absurd (okk.mp u) ok) (fun _ => hX), cf, fun i j q1 q2 => by rw [w1 i j (by omega) q2, fb i j (by omega)], Or.inr ⟨rfl, w2, by rw [w3, fb _ _ (by decide)]⟩⟩
  · have nv : v < -2147483648 ∨ 2147483647 < v := by
      by_cases z : v < -2147483648 ∨ 2147483647 < v
      · exact z
      · exact absurd (pn.mpr (by omega)) hv
    have e27 : m_fl n 14 (n 428 106) 428 27 = 14 := by
      unfold m_fl
      rw [if_pos h27, w_up_nb (by decide), w_up_eq]
    have e28 : m_fl n 14 (n 428 106) 428 28 = n 428 106 := by
      unfold m_fl
      rw [if_pos h27, w_up_eq]
    have bad : xc_m_good (e + 3) (m_fl n 14 (n 428 106)) (fun r2 m2 => if r2 = 0 then ((fun _ n1 => ∃ r m1, (∀ X : Int → w_M → Prop, X r m1 → xc_pa_advance (d + 3) v m X) ∧ p_cf m m1 ∧ p_nf n n1 ∧
    ((r = 1 ∧ n1 428 27 = 0 ∧ p_M m1 n1) ∨ (r = 0 ∧ n1 428 27 = 14 ∧ n1 428 28 = n 428 106))) (0 : Int) m2) else (xc_m_identity (e + 3) 477 m2 (fun r3 m3 => xc_m_product (e + 3) 477 475 475 (w_up m3 477 4 (w_32 v)) (fun r4 m4 => ((fun _ n1 => ∃ r m1, (∀ X : Int → w_M → Prop, X r m1 → xc_pa_advance (d + 3) v m X) ∧ p_cf m m1 ∧ p_nf n n1 ∧
    ((r = 1 ∧ n1 428 27 = 0 ∧ p_M m1 n1) ∨ (r = 0 ∧ n1 428 27 = 14 ∧ n1 428 28 = n 428 106))) (0 : Int) m4))))) := by
      refine sp_m_good (d := e + 2) ?_
      rw [show f_m_good (m_fl n 14 (n 428 106)) = 0 from if_neg (by rw [e27]; decide), if_pos rfl]
      refine ⟨0, m, fun X hX => ?_, fun _ _ _ => rfl, fun i j q1 q2 => m_fl_o q2, Or.inr ⟨rfl, e27, e28⟩⟩
      apply xr_pa_advance
      rw [if_neg hv]
      exact hX
    apply xr_m_moves
    apply xr_m_near
    refine z_ite (fun q => ?_) (fun q => z_ite (fun q2 => ?_) (fun q2 => ?_))
    · exact sp_m_fail (d := e + 1) bad
    · exact sp_m_fail (d := e + 1) bad
    · omega
end PN
