/-! ===== sections: rows of a stream, the class ===== -/
/-- k bytes from a on as a number -/
def e_num (o : List Int) (a : Int) : Nat → Int
  | 0 => 0
  | k + 1 => e_num o a k * 256 + o.getD (a + k).toNat 0 % 256
noncomputable def e_prs (o : List Int) (w0 w1 w2 : Int) : Nat → Int → Int → Option (List e_E × Int)
  | 0, _, a => some ([], a)
  | k + 1, f, a => if (o.length : Int) < a + w0 + w1 + w2 then none else if 2 < (if w0 = 0 then 1 else e_num o a w0.toNat) then none
    else (e_prs o w0 w1 w2 k (f + 1) (a + w0 + w1 + w2)).map (fun r => ((f, (if w0 = 0 then 1 else e_num o a w0.toNat), e_num o (a + w0) w1.toNat, e_num o (a + w0 + w1) w2.toNat) :: r.1, r.2))
noncomputable def e_pairs (o : List Int) (w0 w1 w2 : Int) : List (Int × Int) → Int → Option (List e_E × Int)
  | [], a => some ([], a)
  | (f, c) :: r, a => if 200 < f + c then none else (e_prs o w0 w1 w2 c.toNat f a).bind (fun x => (e_pairs o w0 w1 w2 r x.2).map (fun y => (x.1 ++ y.1, y.2)))
/-- parts two by two -/
def e_pl (n : w_M) : List Int → List (Int × Int)
  | a :: b :: r => (n 433 a, n 433 b) :: e_pl n r
  | _ => []
/-- decoded bytes at hand in the class; the widths -/
def e_R (m : w_M) (R : Int) (o : List Int) (w0 w1 w2 : Int) : Prop := (R = 387 ∨ R = 388) ∧ m 378 7 = R ∧ m 378 8 = o.length ∧ (o.length : Int) ≤ 8000 ∧ z_at m R o ∧ m 393 0 = w0 ∧ m 393 1 = w1 ∧ m 393 2 = w2 ∧ (0 ≤ w0 ∧ w0 ≤ 4) ∧ (0 ≤ w1 ∧ w1 ≤ 4) ∧ (0 ≤ w2 ∧ w2 ≤ 4)
section EX
variable {d : Nat} {g : s_g} {m m' m2 n n' n2 : w_M} {Q : Int → w_M → Prop} {W : Int → Int} {L p p' q f a b R w0 w1 w2 x y : Int} {k : Nat} {o : List Int} {l : List Int}
theorem e_num_r (o : List Int) (a : Int) : ∀ k : Nat, 0 ≤ e_num o a k ∧ (k ≤ 4 → e_num o a k < 4294967296) := by
  have h0 : ∀ k : Nat, 0 ≤ e_num o a k := by
    intro k
    induction k with
    | zero => exact Int.le_refl _
    | succ k ih =>
      show 0 ≤ e_num o a k * 256 + o.getD (a + k).toNat 0 % 256
      omega
  have s : ∀ k, e_num o a (k + 1) = e_num o a k * 256 + o.getD (a + k).toNat 0 % 256 := fun k => rfl
  have e0 : e_num o a 0 = 0 := rfl
  intro k
  refine ⟨h0 k, fun hk => ?_⟩
  have s0 : e_num o a 1 = e_num o a 0 * 256 + o.getD (a + ((0 : Nat) : Int)).toNat 0 % 256 := rfl
  have s1 : e_num o a 2 = e_num o a 1 * 256 + o.getD (a + ((1 : Nat) : Int)).toNat 0 % 256 := rfl
  have s2 : e_num o a 3 = e_num o a 2 * 256 + o.getD (a + ((2 : Nat) : Int)).toNat 0 % 256 := rfl
  have s3 : e_num o a 4 = e_num o a 3 * 256 + o.getD (a + ((3 : Nat) : Int)).toNat 0 % 256 := rfl
  have g0 : 0 ≤ o.getD (a + ((0 : Nat) : Int)).toNat 0 % 256 ∧ o.getD (a + ((0 : Nat) : Int)).toNat 0 % 256 < 256 := by omega
  have g1 : 0 ≤ o.getD (a + ((1 : Nat) : Int)).toNat 0 % 256 ∧ o.getD (a + ((1 : Nat) : Int)).toNat 0 % 256 < 256 := by omega
  have g2 : 0 ≤ o.getD (a + ((2 : Nat) : Int)).toNat 0 % 256 ∧ o.getD (a + ((2 : Nat) : Int)).toNat 0 % 256 < 256 := by omega
  have g3 : 0 ≤ o.getD (a + ((3 : Nat) : Int)).toNat 0 % 256 ∧ o.getD (a + ((3 : Nat) : Int)).toNat 0 % 256 < 256 := by omega
  have c : k = 0 ∨ k = 1 ∨ k = 2 ∨ k = 3 ∨ k = 4 := by omega
  rcases c with rfl | rfl | rfl | rfl | rfl <;> omega
theorem e_R.fr (h : e_R m R o w0 w1 w2) (hf : ∀ i j : Int, ¬ (367 ≤ i ∧ i ≤ 369) → ¬ (i = 376) → ¬ (i = 391) → m' i j = m i j) : e_R m' R o w0 w1 w2 := by
  obtain ⟨a1, a2, a3, a4, a5, a6, a7, a8, a9⟩ := h
  refine ⟨a1, ?_, ?_, a4, fun i hi => ?_, ?_, ?_, ?_, a9⟩
  · rw [hf _ _ (by omega) (by omega) (by omega)]; exact a2
  · rw [hf _ _ (by omega) (by omega) (by omega)]; exact a3
  · rw [hf _ _ (by omega) (by omega) (by omega)]; exact a5 i hi
  · rw [hf _ _ (by omega) (by omega) (by omega)]; exact a6
  · rw [hf _ _ (by omega) (by omega) (by omega)]; exact a7
  · rw [hf _ _ (by omega) (by omega) (by omega)]; exact a8
theorem sp_number (h : e_R m R o w0 w1 w2) {K : Nat} (hK : K ≤ 4) (h12 : m 391 12 = a) (a0 : 0 ≤ a) (a1 : a + K ≤ o.length) (hQ : ∀ m', (∀ i j : Int, ¬ (i = 391 ∧ j = 12) → m' i j = m i j) → m' 391 12 = a + K → Q (e_num o a K) m') : xc_se_number (d + 1) K m Q := by
  obtain ⟨c1, c2, c3, c4, c5, c6⟩ := id h
  obtain ⟨o1, o2, o3, o4, o5, o6, o7⟩ := y_oO c1
  apply xr_se_number
  have key : ∀ (j : Nat) (i : Nat) (m1 : w_M), i + j = K → (∀ x y : Int, ¬ (x = 391 ∧ y = 12) → m1 x y = m x y) → m1 391 12 = a + i → xp_se_number_5 d K (e_num o a i) i m1 Q := by
    intro j
    induction j with
    | zero =>
      intro i m1 hi hf h1
      apply xr_se_number_5
      rw [if_neg (by omega)]
      have e : i = K := by omega
      rw [e]
      rw [e] at h1
      exact hQ m1 hf h1
    | succ j ih =>
      intro i m1 hi hf h1
      have r := e_num_r o a i
      have rn := r.2 (by omega)
      have z := ih (i + 1) (w_up m1 391 12 (a + i + 1)) (by omega) (fun x y q => by unfold w_up; rw [if_neg q]; exact hf x y q) (by rw [w_up_eq]; omega)
      have s : e_num o a (i + 1) = e_num o a i * 256 + o.getD (a + i).toNat 0 % 256 := rfl
      have g : m1 R (a + i) = o.getD (a + i).toNat 0 := by
        rw [hf _ _ (by omega)]
        exact z_get c5 (by omega) (by omega)
      apply xr_se_number_5
      rw [if_pos (by omega), h1, if_neg (by omega), hf 378 7 (by omega), c2, o3]
      refine ⟨o5, o2, ?_⟩
      rw [if_pos (by omega)]
      refine ⟨o5, o1, by omega, ?_⟩
      rw [g, w_64_id (x := e_num o a i * 256) (by omega) (by omega), w_64_id (x := e_num o a i * 256 + o.getD (a + i).toNat 0 % 256) (by omega) (by omega), ← s, w_32_id (x := (i : Int) + 1) (by omega) (by omega), w_32_id (x := a + i + 1) (by omega) (by omega)]
      exact z
  exact key K 0 m (by omega) (fun _ _ _ => rfl) (by rw [h12]; omega)
theorem sp_pair_27 : ∀ (k : Nat) (i a : Int) (m : w_M) (f M : Int), 0 ≤ i → i + k = M → 0 ≤ f → f + M ≤ 200 → e_R m R o w0 w1 w2 → m 391 12 = a → 0 ≤ a → a ≤ o.length →
    (∀ es e, e_prs o w0 w1 w2 k (f + i) a = some (es, e) → ∀ m', e_cf m m' → (∀ k, m' 376 k = m 376 k) → m' 391 12 = e → a ≤ e → e ≤ o.length → e_cT m' = es.foldl e_ct (e_cT m) → Q 1 m') → (e_prs o w0 w1 w2 k (f + i) a = none → ∀ m', e_cf m m' → Q 0 m') → xp_se_readPair_27 (d + 2) f M i m Q := by
  intro k
  induction k with
  | zero =>
    intro i a m f M i0 hi f0 fM h h12 a0 a1 H1 H0
    apply xr_se_readPair_27
    rw [if_neg (by omega)]
    exact H1 [] a rfl m e_cf.rf (fun _ => rfl) h12 (Int.le_refl _) a1 rfl
  | succ k ih =>
    intro i a m f M i0 hi f0 fM h h12 a0 a1 H1 H0
    obtain ⟨c1, c2, c3, c4, c5, c6, c7, c8, c9, c10, c11⟩ := id h
    obtain ⟨o1, o2, o3, o4, o5, o6, o7⟩ := y_oO c1
    have es : e_prs o w0 w1 w2 (k + 1) (f + i) a = (if (o.length : Int) < a + w0 + w1 + w2 then none else if 2 < (if w0 = 0 then 1 else e_num o a w0.toNat) then none
      else (e_prs o w0 w1 w2 k (f + i + 1) (a + w0 + w1 + w2)).map (fun r => ((f + i, (if w0 = 0 then 1 else e_num o a w0.toNat), e_num o (a + w0) w1.toNat, e_num o (a + w0 + w1) w2.toNat) :: r.1, r.2))) := rfl
    obtain ⟨K, hK⟩ : ∃ K : Int, K = o.length := ⟨_, rfl⟩
    rw [← hK] at es c3 a1
    apply xr_se_readPair_27
    rw [if_pos (by omega), c3, h12, c6, c7, c8, w_32_id (x := a + w0) (by omega) (by omega), w_32_id (x := a + w0 + w1) (by omega) (by omega), w_32_id (x := a + w0 + w1 + w2) (by omega) (by omega)]
    by_cases q1 : K < a + w0 + w1 + w2
    · rw [if_pos q1] at es ⊢
      exact H0 es m e_cf.rf
    · rw [if_neg q1] at es ⊢
      have W0 : ((w0.toNat : Nat) : Int) = w0 := by omega
      have W1 : ((w1.toNat : Nat) : Int) = w1 := by omega
      have W2 : ((w2.toNat : Nat) : Int) = w2 := by omega
      obtain ⟨A, hA⟩ : ∃ A : Int, A = (if w0 = 0 then 1 else e_num o a w0.toNat) := ⟨_, rfl⟩
      rw [← hA] at es
      have rA : 0 ≤ A := by
        rw [hA]
        split
        · decide
        · exact (e_num_r o a _).1
      have r1 := e_num_r o (a + w0) w1.toNat
      have r2 := e_num_r o (a + w0 + w1) w2.toNat
      have r1' := r1.2 (by omega)
      have r2' := r2.2 (by omega)
      -- behind the first number
      have next : ∀ m1 : w_M, (∀ i j : Int, ¬ (i = 391 ∧ j = 12) → m1 i j = m i j) → m1 391 12 = a + w0 → xp_se_readPair_93 (d + 2) f M i A m1 Q := by
        intro m1 f1 e1
        have R1 : e_R m1 R o w0 w1 w2 := h.fr (fun i j _ _ z => f1 i j (by omega))
        have b1 : m1 393 1 = w1 := R1.2.2.2.2.2.2.1
        apply xr_se_readPair_93
        rw [b1, ← W1]
        refine sp_number (d := d + 1) R1 (by omega) e1 (by omega) (by omega) (fun m2 f2 e2 => ?_)
        have R2 : e_R m2 R o w0 w1 w2 := R1.fr (fun i j _ _ z => f2 i j (by omega))
        have b2 : m2 393 2 = w2 := R2.2.2.2.2.2.2.2.1
        rw [b2, ← W2]
        refine sp_number (d := d + 1) R2 (by omega) (a := a + w0 + w1) (by rw [e2]; omega) (by omega) (by omega) (fun m3 f3 e3 => ?_)
        have R3 : e_R m3 R o w0 w1 w2 := R2.fr (fun i j _ _ z => f3 i j (by omega))
        have c3' : e_cf m m3 := fun i j q1 q2 q3 => by rw [f3 i j (by omega), f2 i j (by omega), f1 i j (by omega)]
        have T3 : e_cT m3 = e_cT m := by
          unfold e_cT
          have e1 : m3 367 = m 367 := funext (fun x => by rw [f3 _ _ (by omega), f2 _ _ (by omega), f1 _ _ (by omega)])
          have e2 : m3 368 = m 368 := funext (fun x => by rw [f3 _ _ (by omega), f2 _ _ (by omega), f1 _ _ (by omega)])
          have e3 : m3 369 = m 369 := funext (fun x => by rw [f3 _ _ (by omega), f2 _ _ (by omega), f1 _ _ (by omega)])
          have e4 : m3 391 11 = m 391 11 := by rw [f3 _ _ (by omega), f2 _ _ (by omega), f1 _ _ (by omega)]
          rw [e1, e2, e3, e4]
        rw [← W2] at e3
        obtain ⟨B, hB⟩ : ∃ B : Int, B = e_num o (a + w0) w1.toNat := ⟨_, rfl⟩
        obtain ⟨C, hC⟩ : ∃ C : Int, C = e_num o (a + w0 + w1) w2.toNat := ⟨_, rfl⟩
        rw [← hB] at r1 r1' es ⊢
        rw [← hC] at r2 r2' es ⊢
        by_cases q2 : 2 < A
        · rw [if_pos q2] at es ⊢
          exact H0 es m3 c3'
        · rw [if_neg q2] at es ⊢
          -- the telling
          have tell : ∀ hh : Int, hh = A → xc_ta_tell (d + 2) (w_32 (f + i)) (hh + 1) (min B 2147483647) (if 2147483647 < C then -1 else C) m3 (fun r1 m1 => xp_se_readPair_27 (d + 2) f M (w_32 (i + 1)) (w_up m1 391 11 (max (m1 391 11) (w_32 (f + i)))) Q) := by
            intro hh eh
            rw [eh, w_32_id (x := f + i) (by omega) (by omega)]
            refine sp_tell (d := d + 1) (by omega) (fun m4 f4 t4 => ?_)
            rw [w_32_id (x := i + 1) (by omega) (by omega)]
            have f5 : ∀ i' j' : Int, ¬ (367 ≤ i' ∧ i' ≤ 369) → ¬ (i' = 391 ∧ j' = 11) → w_up m4 391 11 (max (m4 391 11) (f + i)) i' j' = m3 i' j' := fun i' j' z1 z2 => by
              unfold w_up
              rw [if_neg z2]
              exact f4 i' j' z1
            have T5 := t4 0 (w_up m4 391 11 (max (m4 391 11) (f + i))) (fun i' j' z1 z2 => by unfold w_up; rw [if_neg z1]) w_up_eq
            have c5' : e_cf m (w_up m4 391 11 (max (m4 391 11) (f + i))) := c3'.tr (fun i' j' z1 z2 z3 => f5 i' j' z2 (by omega))
            have R5 : e_R (w_up m4 391 11 (max (m4 391 11) (f + i))) R o w0 w1 w2 := R3.fr (fun i' j' z1 z2 z3 => f5 i' j' z1 (by omega))
            have x1 : f + i + 1 = f + (i + 1) := by omega
            refine ih (i + 1) (a + w0 + w1 + w2) _ f M (by omega) (by omega) f0 fM R5 (by rw [f5 _ _ (by omega) (by omega), e3]; omega) (by omega) (by omega) (fun es1 e' y m' c' g6 e12 le1 le2 T' => ?_) (fun y m' c' => H0 ?_ m' (c5'.tr c'))
            · refine H1 ((f + i, A, B, C) :: es1) e' ?_ m' (c5'.tr c') (fun k => by rw [g6 k, f5 _ _ (by omega) (by omega), f3 _ _ (by omega), f2 _ _ (by omega), f1 _ _ (by omega)]) e12 (by omega) le2 ?_
              · rw [es, x1, y]
                rfl
              · rw [T', T5, T3]
                rfl
            · rw [es, x1, y]
              rfl
          have gen : ∀ t : Int, t = (if 2147483647 < C then -1 else C) → xp_se_readPair_157 (d + 2) f M i A (w_32 (min B 2147483647)) t m3 Q := by
            intro t ht
            rw [w_32_id (x := min B 2147483647) (by omega) (by omega), ht]
            apply xr_se_readPair_157
            by_cases z0 : A = 0
            · rw [if_pos z0]
              have := tell 0 z0.symm
              exact this
            · rw [if_neg z0]
              by_cases z1 : A = 1
              · rw [if_pos z1]
                have := tell 1 z1.symm
                exact this
              · rw [if_neg z1]
                have := tell 2 (by omega)
                exact this
          by_cases q3 : 2147483647 < C
          · rw [if_pos q3]
            exact gen (-1) (if_pos q3).symm
          · rw [if_neg q3, w_32_id (x := C) (by omega) (by omega)]
            exact gen C (if_neg q3).symm
      by_cases q2 : w0 = 0
      · rw [if_pos q2]
        rw [if_pos q2] at hA
        rw [← hA]
        exact next m (fun _ _ _ => rfl) (by omega)
      · rw [if_neg q2]
        rw [if_neg q2] at hA
        rw [← W0]
        refine sp_number (d := d + 1) h (by omega) h12 a0 (by omega) (fun m1 f1 e1 => ?_)
        rw [← hA]
        exact next m1 f1 (by rw [e1]; omega)
theorem sp_pair {c : Int} (h : e_R m R o w0 w1 w2) (h12 : m 391 12 = a) (a0 : 0 ≤ a) (a1 : a ≤ o.length) (hf : 0 ≤ f ∧ f ≤ 2147483647) (hc : 0 ≤ c ∧ c ≤ 2147483647)
    (H1 : ∀ es e, ¬ 200 < f + c → e_prs o w0 w1 w2 c.toNat f a = some (es, e) → ∀ m', e_cf m m' → (∀ k, m' 376 k = m 376 k) → m' 391 12 = e → a ≤ e → e ≤ o.length → e_cT m' = es.foldl e_ct (e_cT m) → Q 1 m') (H0 : (200 < f + c ∨ e_prs o w0 w1 w2 c.toNat f a = none) → ∀ m', e_cf m m' → Q 0 m') : xc_se_readPair (d + 3) f c b m Q := by
  apply xr_se_readPair
  rw [w_64_id (x := f + c) (by omega) (by omega)]
  by_cases q : 200 < f + c
  · rw [if_pos q]
    exact sp_fail1 (Or.inl rfl) (fun m' c' _ => H0 (Or.inl q) m' (fun i j w1 w2 w3 => c' i j (by omega)))
  · rw [if_neg q]
    refine sp_pair_27 c.toNat 0 a m f c (by decide) (by omega) hf.1 (by omega) h h12 a0 a1 (fun es e y m' c' g6 x1 x2 x3 x4 => H1 es e q ?_ m' c' g6 x1 x2 x3 x4) (fun y m' c' => H0 (Or.inr ?_) m' c')
    · rw [Int.add_zero] at y; exact y
    · rw [Int.add_zero] at y; exact y
end EX
