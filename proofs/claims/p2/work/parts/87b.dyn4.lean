/-! ===== dynamic codes made: the class ===== -/
section YQ
variable {d : Nat} {m m' m2 n n' n2 : w_M} {Q : Int → w_M → Prop} {I f1 f2 g : Int → Int} {A base N O x c M v all at' : Int} {o : List Int} {n1 k2 k : Nat}
theorem sp_in_dynamicCodes {l1 l2 : Nat} {g : Int → Int} (h12 : 257 ≤ l1 ∧ l1 ≤ 286 ∧ 1 ≤ l2 ∧ l2 ≤ 30) (e11 : m 379 11 = l1) (e12 : m 379 12 = l2) (hg : ∀ i, 0 ≤ i → i < (l1 : Int) + l2 → m 380 i = g i ∧ 0 ≤ g i ∧ g i ≤ 15)
    (h1 : y_ok g l1 l2 → ∀ m', y_tf m m' → y_tb m' 381 382 383 384 g l1 (fun i => g (l1 + i)) l2 → Q 1 m') (h0 : ¬ y_ok g l1 l2 → ∀ m', y_tf m m' → Q 0 m') : xc_in_dynamicCodes (d + 3) m Q := by
  apply xr_in_dynamicCodes
  rw [(hg 256 (by decide) (by omega)).1]
  by_cases w : g 256 = 0
  · rw [if_pos w]
    exact h0 (fun y => y.1 w) m (fun _ _ _ => rfl)
  · rw [if_neg w, e11]
    have hgl : ∀ i : Nat, i < l1 → 0 ≤ g i ∧ g i ≤ 15 := fun i hi => (hg i (by omega) (by omega)).2
    have ar1 : y_ar 381 382 l1 := Or.inl ⟨rfl, rfl, by omega⟩
    have ar2 : y_ar 383 384 l2 := Or.inr ⟨rfl, rfl, by omega⟩
    refine sp_in_build (d := d) (k := l1) (f := g) ar1 ⟨by decide, by omega⟩ (fun j hj => ⟨by rw [Int.zero_add]; exact (hg j (by omega) (by omega)).1, hgl j hj⟩) (fun m2 b1 b2 b3 => ?_)
    have f2 := b1.tf ar1
    by_cases w1 : y_lf (y_c g l1) 15 1 1 = 0
    · rw [if_pos w1]
      have s1 := b3 (by omega)
      have i11 : m2 379 11 = l1 := (f2 _ _ (by omega)).trans e11
      have i12 : m2 379 12 = l2 := (f2 _ _ (by omega)).trans e12
      rw [i11, i12]
      have hg2 : ∀ i : Nat, i < l2 → m2 380 ((l1 : Int) + i) = g (l1 + i) ∧ 0 ≤ g (l1 + i) ∧ g (l1 + i) ≤ 15 := fun i hi => ⟨by rw [b1 _ _ (by decide) (by decide) (by decide)]; exact (hg _ (by omega) (by omega)).1, (hg _ (by omega) (by omega)).2⟩
      refine sp_in_build (d := d) (k := l2) (f := fun i => g (l1 + i)) ar2 ⟨by omega, by omega⟩ hg2 (fun m3 c1 c2 c3 => ?_)
      have f3 : y_tf m m3 := fun i j q => (c1.tf ar2 i j q).trans (f2 i j q)
      have z0 := c2 0 (by decide) (by decide)
      have z1 := c2 1 (by decide) (by decide)
      have r0 := y_c_r (fun i => g ((l1 : Int) + i)) 0 l2
      have i12' : m3 379 12 = l2 := (c1.tf ar2 _ _ (by omega)).trans i12
      obtain ⟨c0v, hc0⟩ : ∃ c0v, c0v = y_c (fun i => g ((l1 : Int) + i)) l2 0 := ⟨_, rfl⟩
      obtain ⟨c1v, hc1⟩ : ∃ c1v, c1v = y_c (fun i => g ((l1 : Int) + i)) l2 1 := ⟨_, rfl⟩
      obtain ⟨lv, hlv⟩ : ∃ lv, lv = y_lf (y_c (fun i => g ((l1 : Int) + i)) l2) 15 1 1 := ⟨_, rfl⟩
      unfold y_ok at h1 h0
      rw [← hc0] at z0 r0
      rw [← hc1] at z1
      simp only [← hc0, ← hc1, ← hlv] at h1 h0 c3 ⊢
      have tb : 0 ≤ lv → y_tb m3 381 382 383 384 g l1 (fun i => g (l1 + i)) l2 := by
        intro y
        refine ⟨fun l q1 q2 => ?_, fun i q1 q2 => ?_, c2, c3 y⟩
        · rw [c1 _ _ (by decide) (by decide) (by decide)]; exact b2 l q1 q2
        · rw [c1 _ _ (by decide) (by decide) (by decide)]; exact s1 i q1 q2
      by_cases q0 : lv = 0
      · rw [if_pos q0]
        exact h1 ⟨w, w1, Or.inl q0⟩ m3 f3 (tb (by omega))
      · rw [if_neg q0]
        by_cases q2 : 0 < lv
        · rw [if_pos q2, z0, i12']
          by_cases q3 : c0v = l2
          · rw [if_pos q3]
            exact h1 ⟨w, w1, Or.inr ⟨q2, Or.inl q3⟩⟩ m3 f3 (tb (by omega))
          · rw [if_neg q3, w_32_id (x := (l2 : Int) - 1) (by omega) (by omega)]
            by_cases q4 : c0v = (l2 : Int) - 1
            · rw [if_pos q4, z1]
              by_cases q5 : c1v = 1
              · rw [if_pos q5]
                exact h1 ⟨w, w1, Or.inr ⟨q2, Or.inr ⟨q4, q5⟩⟩⟩ m3 f3 (tb (by omega))
              · rw [if_neg q5]
                exact h0 (fun y => by omega) m3 f3
            · rw [if_neg q4]
              exact h0 (fun y => by omega) m3 f3
        · rw [if_neg q2]
          exact h0 (fun y => by omega) m3 f3
    · rw [if_neg w1]
      exact h0 (fun y => w1 y.2.1) m2 f2
end YQ
