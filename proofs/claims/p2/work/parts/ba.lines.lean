/-! ===== the painter: lines, places of glyphs ===== -/
/-- the class's matrix of a shown glyph too -/
def p_cf2 (m m' : w_M) : Prop := ∀ i j : Int, i ≠ 413 → m' i j = m i j
section PL
variable {d e : Nat} {m m' m0 m1 n n' n0 n1 : w_M} {Q : Int → w_M → Prop} {a b v w k l0 l1 l2 l3 : Int}
/-- a line begins v, w further -/
theorem s_goes (hM : p_M m n) (h27 : n 428 27 = 0) (hv : p_32 v) (hw : p_32 w) : xc_m_goes (e + 4) v w n (fun _ n1 => ∃ r m1, (∀ X : Int → w_M → Prop, X r m1 → xc_pa_nextLine (d + 3) v w m X) ∧ p_cf m m1 ∧ p_nf n n1 ∧
    ((r = 1 ∧ n1 428 27 = 0 ∧ p_M m1 n1) ∨ (r = 0 ∧ n1 428 27 = 14 ∧ n1 428 28 = n 428 106))) := by
  obtain ⟨m0, g1, g2, g3⟩ := c_give (d := d + 1) (m := m) (v := v) (w := w)
  apply xr_m_goes
  refine r_ident (d := e + 2) (Or.inr (Or.inr (Or.inr rfl))) (fun na f1 f2 => ?_)
  obtain ⟨nb, hnb⟩ : ∃ nb, nb = w_up (w_up na 477 4 v) 477 5 w := ⟨_, rfl⟩
  rw [← hnb]
  have fb : ∀ i j : Int, i ≠ 477 → nb i j = n i j := fun i j q => by rw [hnb, w_up_ne q, w_up_ne q]; exact f1 i j q
  have vb : ∀ k, 0 ≤ k → k < 6 → nb 477 k = p_gv v w k := fun k k0 k1 => by
    rw [hnb]
    by_cases z5 : k = 5
    · rw [z5, w_up_eq]; rfl
    · rw [w_up_nb z5]
      by_cases z : k = 4
      · rw [z, w_up_eq]; rfl
      · rw [w_up_nb z, f2 k k0 k1]
        unfold p_gv
        rw [if_neg z, if_neg z, if_neg z5, if_neg z5]
  have eX : ∀ k, 0 ≤ k → k < 6 → m0 412 k = nb 477 k := fun k k0 k1 => by rw [g3 k k0 k1, vb k k0 k1]
  have eY : ∀ k, 0 ≤ k → k < 6 → m0 411 k = nb 476 k := fun k k0 k1 => by rw [g2 411 k (by decide), fb 476 k (by decide)]; exact (hM k k0 k1).2.2.1
  have xX : ∀ k, 0 ≤ k → k < 6 → p_32 (nb 477 k) := fun k k0 k1 => by rw [vb k k0 k1]; exact p_gv_32 hv hw
  have xY : ∀ k, 0 ≤ k → k < 6 → p_32 (nb 476 k) := fun k k0 k1 => by rw [fb 476 k (by decide)]; exact (hM k k0 k1).2.2.2
  have okk := p_ok_eq (x := m0 412) (y := m0 411) (x' := nb 477) (y' := nb 476) eX eY
  obtain ⟨mp, hmp⟩ : ∃ mp, mp = p_put m0 411 (p_mul (m0 412) (m0 411)) := ⟨_, rfl⟩
  obtain ⟨m1, hm1⟩ : ∃ m1, m1 = w_cpy mp 411 0 410 0 6 := ⟨_, rfl⟩
  have run : ∀ X : Int → w_M → Prop, (p_ok (m0 412) (m0 411) → X 1 m1) → (¬ p_ok (m0 412) (m0 411) → X 0 m1) → xc_pa_nextLine (d + 3) v w m X := fun X x1 x2 => by
    apply xr_pa_nextLine
    refine g1 _ ?_
    refine c_mulp (d := d) (Or.inr (Or.inr (Or.inr (Or.inl rfl)))) (Or.inr (Or.inr (Or.inl rfl))) (Or.inr (Or.inr (Or.inl rfl))) (by decide) (fun k k0 k1 => by rw [eX k k0 k1]; exact xX k k0 k1) (fun k k0 k1 => by rw [eY k k0 k1]; exact xY k k0 k1) (fun ok => ⟨by decide, Or.inr rfl, ?_⟩) (fun ok => ⟨by decide, Or.inl rfl, ?_⟩)
    · rw [← hmp, ← hm1]; exact x1 ok
    · rw [← hmp, ← hm1]; exact x2 ok
  have c10 : ∀ k, 0 ≤ k → k < 6 → m1 410 k = mp 411 k := fun k k0 k1 => by
    rw [hm1]
    unfold w_cpy
    rw [if_pos ⟨rfl, k0, by omega⟩, show k - 0 + 0 = k by omega]
  have co : ∀ i j : Int, i ≠ 410 → m1 i j = mp i j := fun i j q => by rw [hm1, w_cpy_ne q]
  have cf : p_cf m m1 := fun i j q => by rw [co i j (by omega), hmp, p_put_o (by omega), g2 i j (by omega)]
  -- the reference copies its line
  have cpy : ∀ (n2 : w_M) (X : Int → w_M → Prop), (∀ n3, (∀ i j : Int, i ≠ 475 → n3 i j = n2 i j) → (∀ k, 0 ≤ k → k < 6 → n3 475 k = n2 476 k) → X 0 n3) → xp_m_goes_39 (e + 3) 0 n2 X := fun n2 X hX => by
    have key : ∀ (K : Nat) (i : Int) (n3 : w_M), i + K = 6 → 0 ≤ i → (∀ a b : Int, a ≠ 475 → n3 a b = n2 a b) → (∀ j, 0 ≤ j → j < i → n3 475 j = n2 476 j) → xp_m_goes_39 (e + 3) i n3 X := by
      intro K
      induction K with
      | zero =>
        intro i n3 hi i0 hf hx
        apply xr_m_goes_39
        rw [if_neg (by omega)]
        exact hX n3 hf (fun j j0 j1 => hx j j0 (by omega))
      | succ K ih =>
        intro i n3 hi i0 hf hx
        apply xr_m_goes_39
        rw [if_pos (by omega), w_32_id (x := i + 1) (by omega) (by omega)]
        refine ⟨by omega, by omega, ih (i + 1) _ (by omega) (by omega) (fun a b q => by rw [w_up_ne q]; exact hf a b q) (fun j j0 j1 => ?_)⟩
        by_cases z : j = i
        · rw [z, w_up_eq, hf 476 i (by decide)]
        · rw [w_up_nb z]; exact hx j j0 (by omega)
    exact key 6 0 n2 (by decide) (by decide) (fun _ _ _ => rfl) (fun j j0 j1 => by omega)
  obtain ⟨a1, a2, a3, a4, a5⟩ := p_rH (a := 477) (Or.inr (Or.inr (Or.inr rfl)))
  obtain ⟨b1, b2, b3, b4, b5⟩ := p_rH (a := 476) (Or.inr (Or.inr (Or.inl rfl)))
  refine r_prod (d := e) ⟨a1, a3, a4⟩ ⟨b1, b3, b4⟩ ⟨b1, b2, b3, b4, b5⟩ (by rw [fb _ _ (by decide)]; exact h27) xX xY (fun ok n' w1 w2 => ?_) (fun ok n' w1 w2 w3 => ?_)
  · refine cpy n' _ (fun n3 y1 y2 => ?_)
    refine ⟨1, m1, fun X hX => run X (fun _ => hX) (fun u => absurd (okk.mpr ok) u), cf, fun i j q1 q2 => by rw [y1 i j (by omega), w1 i j (by omega) (by omega), fb i j (by omega)], Or.inl ⟨rfl, by rw [y1 _ _ (by decide), w1 _ _ (by decide) (by decide), fb _ _ (by decide)]; exact h27, fun k k0 k1 => ⟨?_, ?_, ?_⟩⟩⟩
    · rw [co 408 k (by decide), hmp, p_put_o (by decide), g2 408 k (by decide), y1 474 k (by decide), w1 474 k (by decide) (by omega), fb 474 k (by decide)]
      exact (hM k k0 k1).1
    · rw [c10 k k0 k1, hmp, p_put_v k0 k1, y2 k k0 k1, w2 k k0 k1, p_mul_eq eX eY k0 k1]
      exact ⟨rfl, p_w32⟩
    · rw [co 411 k (by decide), hmp, p_put_v k0 k1, y1 476 k (by decide), w2 k k0 k1, p_mul_eq eX eY k0 k1]
      exact ⟨rfl, p_w32⟩
  · refine cpy n' _ (fun n3 y1 y2 => ?_)
    refine ⟨0, m1, fun X hX => run X (fun u => absurd (okk.mp u) ok) (fun _ => hX), cf, fun i j q1 q2 => by rw [y1 i j (by omega), w1 i j (by omega) q2, fb i j (by omega)], Or.inr ⟨rfl, by rw [y1 _ _ (by decide)]; exact w2, by rw [y1 _ _ (by decide), w3, fb _ _ (by decide)]⟩⟩
/-- where a glyph stands: text times page -/
theorem s_shown (hM : p_M m n) (h27 : n 428 27 = 0) : xc_m_product (e + 3) 475 474 477 n (fun _ n1 => ∃ r m1, (∀ X : Int → w_M → Prop, X r m1 → xc_pa_multiply (d + 2) 410 408 413 m X) ∧ p_cf2 m m1 ∧ p_nf n n1 ∧
    ((r = 1 ∧ n1 428 27 = 0 ∧ p_M m1 n1 ∧ ∀ k, 0 ≤ k → k < 6 → m1 413 k = n1 477 k ∧ p_32 (n1 477 k)) ∨ (r = 0 ∧ n1 428 27 = 14 ∧ n1 428 28 = n 428 106))) := by
  have eX : ∀ k, 0 ≤ k → k < 6 → m 410 k = n 475 k := fun k k0 k1 => (hM k k0 k1).2.1.1
  have eY : ∀ k, 0 ≤ k → k < 6 → m 408 k = n 474 k := fun k k0 k1 => (hM k k0 k1).1.1
  have xX : ∀ k, 0 ≤ k → k < 6 → p_32 (n 475 k) := fun k k0 k1 => (hM k k0 k1).2.1.2
  have xY : ∀ k, 0 ≤ k → k < 6 → p_32 (n 474 k) := fun k k0 k1 => (hM k k0 k1).1.2
  have okk := p_ok_eq (x := m 410) (y := m 408) (x' := n 475) (y' := n 474) eX eY
  have run : ∀ X : Int → w_M → Prop, (p_ok (m 410) (m 408) → X 1 (p_put m 413 (p_mul (m 410) (m 408)))) → (¬ p_ok (m 410) (m 408) → X 0 (p_put m 413 (p_mul (m 410) (m 408)))) → xc_pa_multiply (d + 2) 410 408 413 m X := fun X x1 x2 =>
    c_mulp (d := d) (Or.inr (Or.inl rfl)) (Or.inl rfl) (Or.inr (Or.inr (Or.inr (Or.inr rfl)))) (by decide) (fun k k0 k1 => by rw [eX k k0 k1]; exact xX k k0 k1) (fun k k0 k1 => by rw [eY k k0 k1]; exact xY k k0 k1) x1 x2
  have cf : p_cf2 m (p_put m 413 (p_mul (m 410) (m 408))) := fun i j q => p_put_o q
  obtain ⟨a1, a2, a3, a4, a5⟩ := p_rH (a := 475) (Or.inr (Or.inl rfl))
  obtain ⟨b1, b2, b3, b4, b5⟩ := p_rH (a := 474) (Or.inl rfl)
  obtain ⟨c1, c2, c3, c4, c5⟩ := p_rH (a := 477) (Or.inr (Or.inr (Or.inr rfl)))
  refine r_prod (d := e) ⟨a1, a3, a4⟩ ⟨b1, b3, b4⟩ ⟨c1, c2, c3, c4, c5⟩ h27 xX xY (fun ok n' w1 w2 => ?_) (fun ok n' w1 w2 w3 => ?_)
  · refine ⟨1, _, fun X hX => run X (fun _ => hX) (fun u => absurd (okk.mpr ok) u), cf, fun i j q1 q2 => w1 i j (by omega) (by omega), Or.inl ⟨rfl, by rw [w1 _ _ (by decide) (by decide)]; exact h27, fun k k0 k1 => ⟨?_, ?_, ?_⟩, fun k k0 k1 => ?_⟩⟩
    · rw [p_put_o (by decide), w1 474 k (by decide) (by omega)]
      exact (hM k k0 k1).1
    · rw [p_put_o (by decide), w1 475 k (by decide) (by omega)]
      exact (hM k k0 k1).2.1
    · rw [p_put_o (by decide), w1 476 k (by decide) (by omega)]
      exact (hM k k0 k1).2.2
    · rw [p_put_v k0 k1, w2 k k0 k1, p_mul_eq eX eY k0 k1]
      exact ⟨rfl, p_w32⟩
  · exact ⟨0, _, fun X hX => run X (fun u => absurd (okk.mp u) ok) (fun _ => hX), cf, fun i j q1 q2 => w1 i j (by omega) q2, Or.inr ⟨rfl, w2, w3⟩⟩
end PL
