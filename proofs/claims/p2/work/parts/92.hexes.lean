/-! ===== filters: bytes of hexes, both sides ===== -/
/-- what k bytes from p on say: h is a digit that waits -/
noncomputable def z_hx (I : Int → Int) : Nat → Int → Int → List Int → Option (List Int)
  | 0, _, _, _ => none
  | k + 1, p, h, o => by
    classical exact (if b_w (I p) then z_hx I k (p + 1) h o
    else if I p = 62 then (if ∀ i, p + 1 ≤ i → i < p + 1 + k → b_w (I i) then some (if h < 0 then o else o ++ [w_8 (16 * h)]) else none)
    else if h_x (I p) < 0 then none
    else if h < 0 then z_hx I k (p + 1) (h_x (I p)) o
    else z_hx I k (p + 1) (-1) (o ++ [w_8 (16 * h + h_x (I p))]))
/-- the class's bytes that are decoded -/
def z_in (m : w_M) (A base N : Int) (I : Int → Int) : Prop := 0 ≤ A ∧ w_isA 1 A ∧ w_isR A ∧ 0 ≤ base ∧ 0 ≤ N ∧ N ≤ 8000 ∧ base + N ≤ w_ln A ∧ w_ln A ≤ 200000 ∧ ∀ i, 0 ≤ i → i < N → m A (base + i) % 256 = I i
/-- bytes that stand there -/
def z_at (m : w_M) (O : Int) (o : List Int) : Prop := ∀ i : Nat, i < o.length → m O i = o.getD i 0
/-- only this row has changed -/
def z_fr (O : Int) (m m' : w_M) : Prop := ∀ i j : Int, i ≠ O → m' i j = m i j
section ZH
variable {d : Nat} {m m' m2 n n' n2 : w_M} {Q : Int → w_M → Prop} {I : Int → Int} {A base N O p h c : Int} {k : Nat} {o : List Int}
theorem z_fr.rf : z_fr O m m := fun _ _ _ => rfl
theorem z_fr.tr (h : z_fr O m m') (h2 : z_fr O m' m2) : z_fr O m m2 := fun a b q => (h2 a b q).trans (h a b q)
theorem z_in.fr (h : z_in m A base N I) (hA : A ≠ O) (hf : z_fr O m m') : z_in m' A base N I := by
  obtain ⟨a1, a2, a3, a4, a5, a6, a7, a8, a9⟩ := h
  exact ⟨a1, a2, a3, a4, a5, a6, a7, a8, fun i q1 q2 => by rw [hf _ _ hA]; exact a9 i q1 q2⟩
theorem z_at.app (h : z_at m O o) {v : Int} : z_at (w_up m O o.length v) O (o ++ [v]) := by
  intro i hi
  rcases t_app o v i hi with ⟨y1, y2⟩ | ⟨y1, y2⟩
  · rw [y2, w_up_nb (by omega)]
    exact h i y1
  · rw [y2, y1, w_up_eq]
theorem z_fr.up {j v : Int} : z_fr O m (w_up m O j v) := fun a b q => w_up_ne q
theorem z_hx_w (q : b_w (I p)) : z_hx I (k + 1) p h o = z_hx I k (p + 1) h o := if_pos q
theorem z_hx_e (q1 : ¬ b_w (I p)) (q2 : I p = 62) (q3 : ∀ i, p + 1 ≤ i → i < p + 1 + k → b_w (I i)) : z_hx I (k + 1) p h o = some (if h < 0 then o else o ++ [w_8 (16 * h)]) := (if_neg q1).trans ((if_pos q2).trans (if_pos q3))
theorem z_hx_en (q1 : ¬ b_w (I p)) (q2 : I p = 62) (q3 : ¬ ∀ i, p + 1 ≤ i → i < p + 1 + k → b_w (I i)) : z_hx I (k + 1) p h o = none := (if_neg q1).trans ((if_pos q2).trans (if_neg q3))
theorem z_hx_n (q1 : ¬ b_w (I p)) (q2 : I p ≠ 62) (q3 : h_x (I p) < 0) : z_hx I (k + 1) p h o = none := (if_neg q1).trans ((if_neg q2).trans (if_pos q3))
theorem z_hx_1 (q1 : ¬ b_w (I p)) (q2 : I p ≠ 62) (q3 : ¬ h_x (I p) < 0) (q4 : h < 0) : z_hx I (k + 1) p h o = z_hx I k (p + 1) (h_x (I p)) o := (if_neg q1).trans ((if_neg q2).trans ((if_neg q3).trans (if_pos q4)))
theorem z_hx_2 (q1 : ¬ b_w (I p)) (q2 : I p ≠ 62) (q3 : ¬ h_x (I p) < 0) (q4 : ¬ h < 0) : z_hx I (k + 1) p h o = z_hx I k (p + 1) (-1) (o ++ [w_8 (16 * h + h_x (I p))]) := (if_neg q1).trans ((if_neg q2).trans ((if_neg q3).trans (if_neg q4)))
theorem z_hx_62 : h_x 62 = -1 := by decide
theorem z_hx_bw {c : Int} (h : b_w c) : h_x c = -1 := by
  rcases h with rfl | rfl | rfl | rfl | rfl | rfl <;> decide
/-- bytes as bytes -/
theorem z_by_app (h : y_by o) {v : Int} : y_by (o ++ [w_8 v]) := by
  intro i hi
  rcases t_app o (w_8 v) i hi with ⟨y1, y2⟩ | ⟨y1, y2⟩
  · rw [y2]; exact h i y1
  · rw [y2, w_8_8]
-- behind the end: the class
theorem sp_fromHex_r {wr hg : Int} (hin : z_in m A base N I) : ∀ (k : Nat) (p : Int), 0 ≤ p → p + k = N → ((∀ i, p ≤ i → i < p + k → b_w (I i)) → Q wr m) → ((¬ ∀ i, p ≤ i → i < p + k → b_w (I i)) → Q (-1) m) → xp_fi_fromHex_12 (d + 1) A base N O wr hg 1 (base + p) m Q := by
  obtain ⟨a1, a2, a3, a4, a5, a6, a7, a8, a9⟩ := hin
  intro k
  induction k with
  | zero =>
    intro p p0 hp h1 h0
    apply xr_fi_fromHex_12
    rw [w_32_id (x := base + N) (by omega) (by omega), if_neg (by omega), if_neg (by decide)]
    exact h1 (fun i q1 q2 => by omega)
  | succ k ih =>
    intro p p0 hp h1 h0
    have e := a9 p p0 (by omega)
    apply xr_fi_fromHex_12
    rw [w_32_id (x := base + N) (by omega) (by omega), if_pos (by omega), if_neg (by omega)]
    refine ⟨a3, ?_⟩
    rw [if_pos (by omega)]
    refine ⟨a2, ⟨by omega, by omega⟩, ?_⟩
    rw [e]
    refine sp_c_hex ?_
    refine sp_c_isWhite ?_
    by_cases q : b_w (I p)
    · rw [if_pos q, if_neg (by decide), w_32_id (x := base + p + 1) (by omega) (by omega), show base + p + 1 = base + (p + 1) by omega]
      refine ih (p + 1) (by omega) (by omega) (fun z => h1 (fun i q1 q2 => ?_)) (fun z => h0 (fun w => z (fun i q1 q2 => w i (by omega) (by omega))))
      by_cases w : i = p
      · rw [w]; exact q
      · exact z i (by omega) (by omega)
    · rw [if_neg q, if_pos rfl, if_neg (by decide)]
      exact h0 (fun w => q (w p (Int.le_refl _) (by omega)))
theorem sp_fromHex_12 (hO : O = 387 ∨ O = 388) (hA : A ≠ O) : ∀ (k : Nat) (p h : Int) (o : List Int) (m : w_M), 0 ≤ p → p + k = N → -1 ≤ h → h < 16 → 2 * (o.length : Int) + (if h < 0 then 0 else 1) ≤ p → z_in m A base N I → z_at m O o → y_by o →
    (∀ o', z_hx I k p h o = some o' → (2 * o'.length : Int) ≤ N → y_by o' → ∀ m', z_fr O m m' → z_at m' O o' → Q o'.length m') → (z_hx I k p h o = none → ∀ m', z_fr O m m' → Q (-1) m') → xp_fi_fromHex_12 (d + 1) A base N O o.length h 0 (base + p) m Q := by
  obtain ⟨o1, o2, o3, o4, o5, o6, o7⟩ := y_oO hO
  intro k
  induction k with
  | zero =>
    intro p h o m p0 hp h1 h2 hlen hin hat hby H1 H0
    obtain ⟨a1, a2, a3, a4, a5, a6, a7, a8, a9⟩ := hin
    apply xr_fi_fromHex_12
    rw [w_32_id (x := base + N) (by omega) (by omega), if_neg (by omega), if_pos rfl]
    exact H0 rfl m z_fr.rf
  | succ k ih =>
    intro p h o m p0 hp h1 h2 hlen hin hat hby H1 H0
    obtain ⟨a1, a2, a3, a4, a5, a6, a7, a8, a9⟩ := id hin
    obtain ⟨K, hK⟩ : ∃ K : Int, K = o.length := ⟨_, rfl⟩
    rw [← hK] at hlen ⊢
    have e := a9 p p0 (by omega)
    have rx := h_x_r (I p)
    have e32 : w_32 (base + p + 1) = base + (p + 1) := by rw [w_32_id (by omega) (by omega)]; omega
    apply xr_fi_fromHex_12
    rw [w_32_id (x := base + N) (by omega) (by omega), if_pos (by omega), if_neg (by omega)]
    refine ⟨a3, ?_⟩
    rw [if_pos (by omega)]
    refine ⟨a2, ⟨by omega, by omega⟩, ?_⟩
    rw [e]
    refine sp_c_hex ?_
    refine sp_c_isWhite ?_
    by_cases q : b_w (I p)
    · rw [if_pos q, if_neg (by decide), e32, hK]
      refine ih (p + 1) h o m (by omega) (by omega) h1 h2 (by omega) hin hat hby (fun o' y => H1 o' ((z_hx_w q).trans y)) (fun y => H0 ((z_hx_w q).trans y))
    · rw [if_neg q, if_pos rfl, if_pos rfl]
      by_cases q2 : I p = 62
      · have hx : h_x (I p) = -1 := by rw [q2]; exact z_hx_62
        rw [if_pos (by omega), if_pos q2]
        apply xr_fi_fromHex_79
        rw [if_pos q2]
        have fin : xp_fi_fromHex_110 (d + 1) A base N O K h 1 (base + p) (h_x (I p)) m Q := by
          apply xr_fi_fromHex_110
          by_cases q3 : h < 0
          · rw [if_pos q3, e32]
            refine sp_fromHex_r hin k (p + 1) (by omega) (by omega) (fun z => ?_) (fun z => H0 (z_hx_en q q2 z) m z_fr.rf)
            have := H1 o (by rw [z_hx_e q q2 z, if_pos q3]) (by omega) hby m z_fr.rf hat
            rw [← hK] at this
            exact this
          · rw [if_neg q3]
            refine ⟨o2, ?_⟩
            rw [if_neg q3] at hlen
            rw [o3, if_pos (by omega)]
            refine ⟨o1, o4, by omega, ?_⟩
            rw [hx, show max 0 (-1 : Int) = 0 by decide, w_32_id (x := h * 16) (by omega) (by omega), w_32_id (x := h * 16 + 0) (by omega) (by omega), w_32_id (x := K + 1) (by omega) (by omega), e32, w_8_8, show h * 16 + 0 = 16 * h by omega]
            have f1 : z_fr O m (w_up m O K (w_8 (16 * h))) := z_fr.up
            refine sp_fromHex_r (hin.fr hA f1) k (p + 1) (by omega) (by omega) (fun z => ?_) (fun z => H0 (z_hx_en q q2 z) _ f1)
            have len1 : (((o ++ [w_8 (16 * h)]).length : Nat) : Int) = K + 1 := by rw [List.length_append, hK]; rfl
            have := H1 (o ++ [w_8 (16 * h)]) (by rw [z_hx_e q q2 z, if_neg q3]) (by omega) (z_by_app hby) _ f1 (by rw [hK]; exact hat.app)
            rw [len1] at this
            exact this
        split
        · exact fin
        · exact fin
      · by_cases q3 : h_x (I p) < 0
        · rw [if_pos q3, if_neg q2]
          exact H0 (z_hx_n q q2 q3) m z_fr.rf
        · rw [if_neg q3]
          apply xr_fi_fromHex_79
          rw [if_neg q2]
          by_cases q4 : h < 0
          · rw [if_pos q4, e32, hK]
            rw [if_pos q4] at hlen
            exact ih (p + 1) (h_x (I p)) o m (by omega) (by omega) (by omega) (by omega) (by rw [if_neg q3]; omega) hin hat hby (fun o' y => H1 o' ((z_hx_1 q q2 q3 q4).trans y)) (fun y => H0 ((z_hx_1 q q2 q3 q4).trans y))
          · rw [if_neg q4] at hlen ⊢
            apply xr_fi_fromHex_110
            rw [if_neg q4]
            refine ⟨o2, ?_⟩
            rw [o3, if_pos (by omega)]
            refine ⟨o1, o4, by omega, ?_⟩
            rw [show max 0 (h_x (I p)) = h_x (I p) by omega, w_32_id (x := h * 16) (by omega) (by omega), w_32_id (x := h * 16 + h_x (I p)) (by omega) (by omega), w_32_id (x := K + 1) (by omega) (by omega), e32, w_8_8, show h * 16 + h_x (I p) = 16 * h + h_x (I p) by omega]
            have f1 : z_fr O m (w_up m O K (w_8 (16 * h + h_x (I p)))) := z_fr.up
            have len1 : (((o ++ [w_8 (16 * h + h_x (I p))]).length : Nat) : Int) = K + 1 := by rw [List.length_append, hK]; rfl
            rw [← len1]
            exact ih (p + 1) (-1) (o ++ [w_8 (16 * h + h_x (I p))]) _ (by omega) (by omega) (by decide) (by decide) (by rw [if_pos (by decide)]; omega) (hin.fr hA f1) (by rw [hK]; exact hat.app) (z_by_app hby) (fun o' y z w m' f => H1 o' ((z_hx_2 q q2 q3 q4).trans y) z w m' (f1.tr f)) (fun y m' f => H0 ((z_hx_2 q q2 q3 q4).trans y) m' (f1.tr f))
theorem sp_fromHex (hO : O = 387 ∨ O = 388) (hA : A ≠ O) (hin : z_in m A base N I)
    (H1 : ∀ o, z_hx I N.toNat 0 (-1) [] = some o → (2 * o.length : Int) ≤ N → y_by o → ∀ m', z_fr O m m' → z_at m' O o → Q o.length m') (H0 : z_hx I N.toNat 0 (-1) [] = none → ∀ m', z_fr O m m' → Q (-1) m') : xc_fi_fromHex (d + 2) A base N O m Q := by
  have a5 := hin.2.2.2.2.1
  apply xr_fi_fromHex
  have := sp_fromHex_12 (d := d) (N := N) (Q := Q) hO hA N.toNat 0 (-1) [] m (by decide) (by omega) (by decide) (by decide) (by decide) hin (fun i hi => absurd hi (by simp)) (fun i hi => absurd hi (by simp)) H1 H0
  rw [Int.add_zero] at this
  exact this
-- the reference
theorem r_unhex_159 (hin : y_rin n N I) : ∀ (k : Nat) (p f : Int), 0 ≤ p → p + k = N → (f = 0 ∨ f = 1) → ((f = 1 ∧ ∀ i, p ≤ i → i < p + k → b_w (I i)) → Q 1 n) → (¬ (f = 1 ∧ ∀ i, p ≤ i → i < p + k → b_w (I i)) → Q 0 n) → xp_m_unhex_159 (d + 1) f p n Q := by
  obtain ⟨a1, a2, a3, a4⟩ := hin
  intro k
  induction k with
  | zero =>
    intro p f p0 hp hf h1 h0
    apply xr_m_unhex_159
    rw [if_neg (by omega)]
    refine ⟨hf, ?_⟩
    rcases hf with e | e
    · rw [e]; exact h0 (fun z => by omega)
    · rw [e]; exact h1 ⟨e, fun i q1 q2 => by omega⟩
  | succ k ih =>
    intro p f p0 hp hf h1 h0
    apply xr_m_unhex_159
    rw [if_pos (by omega), w_32_id (x := p + 1) (by omega) (by omega)]
    rcases hf with e | e
    · rw [if_pos e]
      exact ih (p + 1) 0 (by omega) (by omega) (Or.inl rfl) (fun z => by omega) (fun _ => h0 (fun z => by omega))
    · rw [if_neg (by omega)]
      refine ⟨by omega, ?_⟩
      refine sp_r_isBlank ?_
      rw [a4 p p0 (by omega)]
      by_cases q : b_w (I p)
      · rw [if_pos q, if_neg (by decide)]
        refine ih (p + 1) 1 (by omega) (by omega) (Or.inr rfl) (fun z => h1 ⟨e, fun i q1 q2 => ?_⟩) (fun z => h0 (fun w => z ⟨rfl, fun i q1 q2 => w.2 i (by omega) (by omega)⟩))
        by_cases w : i = p
        · rw [w]; exact q
        · exact z.2 i (by omega) (by omega)
      · rw [if_neg q, if_pos rfl]
        exact ih (p + 1) 0 (by omega) (by omega) (Or.inl rfl) (fun z => by omega) (fun _ => h0 (fun z => q (z.2 p (Int.le_refl _) (by omega))))
theorem r_unhex_9 : ∀ (k : Nat) (p h : Int) (o : List Int) (n : w_M), 0 ≤ p → p + k = N → -1 ≤ h → h < 16 → 2 * (o.length : Int) + (if h < 0 then 0 else 1) ≤ p → y_rin n N I → (∀ j, -128 ≤ n 442 j ∧ n 442 j < 128) → n 428 38 = o.length → z_at n 443 o → y_by o →
    (∀ o', z_hx I k p h o = some o' → (2 * o'.length : Int) ≤ N → y_by o' → ∀ n', y_ofr n n' → n' 428 38 = o'.length → z_at n' 443 o' → Q 1 n') → (z_hx I k p h o = none → ∀ n', y_ofr n n' → Q 0 n') → xp_m_unhex_9 (d + 2) h p n Q := by
  intro k
  induction k with
  | zero =>
    intro p h o n p0 hp h1 h2 hlen hin hr h38 hat hby H1 H0
    obtain ⟨a1, a2, a3, a4⟩ := hin
    apply xr_m_unhex_9
    rw [if_neg (by omega)]
    apply xr_m_unhex_114
    rw [if_pos (by omega)]
    exact H0 rfl n y_ofr.rf
  | succ k ih =>
    intro p h o n p0 hp h1 h2 hlen hin hr h38 hat hby H1 H0
    obtain ⟨a1, a2, a3, a4⟩ := id hin
    obtain ⟨K, hK⟩ : ∃ K : Int, K = o.length := ⟨_, rfl⟩
    rw [← hK] at hlen h38
    have e := a4 p p0 (by omega)
    have rx := h_x_r (I p)
    have rr := hr p
    have e32 : w_32 (p + 1) = p + 1 := w_32_id (by omega) (by omega)
    apply xr_m_unhex_9
    rw [if_pos (by omega)]
    refine ⟨by omega, ?_⟩
    by_cases q2 : I p = 62
    · have q : ¬ b_w (I p) := by omega
      rw [if_pos (by omega)]
      apply xr_m_unhex_114
      rw [if_neg (by omega), e32]
      by_cases q3 : h < 0
      · rw [if_pos q3]
        refine r_unhex_159 hin k (p + 1) 1 (by omega) (by omega) (Or.inr rfl) (fun z => ?_) (fun z => H0 (z_hx_en q q2 (fun w => z ⟨rfl, w⟩)) n y_ofr.rf)
        exact H1 o (by rw [z_hx_e q q2 z.2, if_pos q3]) (by omega) hby n y_ofr.rf (by omega) hat
      · rw [if_neg q3] at hlen ⊢
        refine ⟨by omega, ?_⟩
        rw [h38, w_32_id (x := 16 * h) (by omega) (by omega), w_32_id (x := K + 1) (by omega) (by omega), w_8_8]
        have f1 : y_ofr n (w_up (w_up n 443 K (w_8 (16 * h))) 428 38 (K + 1)) := fun i j q1 q2 => by unfold w_up; rw [if_neg (by omega), if_neg (by omega)]
        have at1 : z_at (w_up (w_up n 443 K (w_8 (16 * h))) 428 38 (K + 1)) 443 (o ++ [w_8 (16 * h)]) := fun i hi => by
          rw [w_up_ne (by decide), hK]
          exact hat.app i hi
        have len1 : (((o ++ [w_8 (16 * h)]).length : Nat) : Int) = K + 1 := by rw [List.length_append, hK]; rfl
        have in1 : y_rin (w_up (w_up n 443 K (w_8 (16 * h))) 428 38 (K + 1)) N I := ⟨by rw [f1 _ _ (by omega) (by omega)]; exact a1, a2, a3, fun i q1 q2 => by rw [f1 _ _ (by omega) (by omega)]; exact a4 i q1 q2⟩
        refine r_unhex_159 in1 k (p + 1) 1 (by omega) (by omega) (Or.inr rfl) (fun z => ?_) (fun z => H0 (z_hx_en q q2 (fun w => z ⟨rfl, w⟩)) _ f1)
        exact H1 (o ++ [w_8 (16 * h)]) (by rw [z_hx_e q q2 z.2, if_neg q3]) (by omega) (z_by_app hby) _ f1 (by rw [w_up_eq, len1]) at1
    · rw [if_neg (by omega)]
      refine ⟨by omega, ?_⟩
      refine sp_r_hex ?_
      rw [e]
      by_cases q3 : h_x (I p) < 0
      · rw [if_pos q3]
        refine sp_r_isBlank ?_
        by_cases q : b_w (I p)
        · rw [if_pos q, if_neg (by decide)]
          apply xr_m_unhex_59
          rw [if_pos q3, if_pos q3, e32]
          exact ih (p + 1) h o n (by omega) (by omega) h1 h2 (by omega) hin hr (by omega) hat hby (fun o' y => H1 o' ((z_hx_w q).trans y)) (fun y => H0 ((z_hx_w q).trans y))
        · rw [if_neg q, if_pos rfl]
          exact H0 (z_hx_n q q2 q3) n y_ofr.rf
      · have q : ¬ b_w (I p) := fun w => by have := z_hx_bw w; omega
        rw [if_neg q3]
        apply xr_m_unhex_59
        rw [if_neg q3]
        by_cases q4 : h < 0
        · rw [if_pos q4] at hlen
          rw [if_pos q4, if_neg q3, e32]
          exact ih (p + 1) (h_x (I p)) o n (by omega) (by omega) (by omega) (by omega) (by rw [if_neg q3]; omega) hin hr (by omega) hat hby (fun o' y => H1 o' ((z_hx_1 q q2 q3 q4).trans y)) (fun y => H0 ((z_hx_1 q q2 q3 q4).trans y))
        · rw [if_neg q4] at hlen ⊢
          refine ⟨by omega, ?_⟩
          rw [h38, w_32_id (x := 16 * h) (by omega) (by omega), w_32_id (x := 16 * h + h_x (I p)) (by omega) (by omega), w_32_id (x := K + 1) (by omega) (by omega), w_8_8, e32]
          have f1 : y_ofr n (w_up (w_up n 443 K (w_8 (16 * h + h_x (I p)))) 428 38 (K + 1)) := fun i j q1 q2 => by unfold w_up; rw [if_neg (by omega), if_neg (by omega)]
          have at1 : z_at (w_up (w_up n 443 K (w_8 (16 * h + h_x (I p)))) 428 38 (K + 1)) 443 (o ++ [w_8 (16 * h + h_x (I p))]) := fun i hi => by
            rw [w_up_ne (by decide), hK]
            exact hat.app i hi
          have len1 : (((o ++ [w_8 (16 * h + h_x (I p))]).length : Nat) : Int) = K + 1 := by rw [List.length_append, hK]; rfl
          have in1 : y_rin (w_up (w_up n 443 K (w_8 (16 * h + h_x (I p)))) 428 38 (K + 1)) N I := ⟨by rw [f1 _ _ (by omega) (by omega)]; exact a1, a2, a3, fun i q1 q2 => by rw [f1 _ _ (by omega) (by omega)]; exact a4 i q1 q2⟩
          exact ih (p + 1) (-1) (o ++ [w_8 (16 * h + h_x (I p))]) _ (by omega) (by omega) (by decide) (by decide) (by rw [if_pos (by decide)]; omega) in1 (fun j => by rw [f1 _ _ (by omega) (by omega)]; exact hr j) (by rw [w_up_eq, len1]) at1 (z_by_app hby) (fun o' y z w n' f => H1 o' ((z_hx_2 q q2 q3 q4).trans y) z w n' (f1.tr f)) (fun y n' f => H0 ((z_hx_2 q q2 q3 q4).trans y) n' (f1.tr f))
theorem r_unhex (hin : y_rin n N I) (hr : ∀ j, -128 ≤ n 442 j ∧ n 442 j < 128)
    (H1 : ∀ o, z_hx I N.toNat 0 (-1) [] = some o → (2 * o.length : Int) ≤ N → y_by o → ∀ n', y_ofr n n' → n' 428 38 = o.length → z_at n' 443 o → Q 1 n') (H0 : z_hx I N.toNat 0 (-1) [] = none → ∀ n', y_ofr n n' → Q 0 n') : xc_m_unhex (d + 3) n Q := by
  obtain ⟨a1, a2, a3, a4⟩ := id hin
  apply xr_m_unhex
  have f1 : y_ofr n (w_up n 428 38 0) := fun i j q1 q2 => by unfold w_up; rw [if_neg (by omega)]
  exact r_unhex_9 (N := N) (I := I) N.toNat 0 (-1) [] _ (by decide) (by omega) (by decide) (by decide) (by decide) ⟨by rw [f1 _ _ (by omega) (by omega)]; exact a1, a2, a3, fun i q1 q2 => by rw [f1 _ _ (by omega) (by omega)]; exact a4 i q1 q2⟩ (fun j => by rw [f1 _ _ (by omega) (by omega)]; exact hr j) w_up_eq (fun i hi => absurd hi (by simp)) (fun i hi => absurd hi (by simp)) (fun o y z w n' f => H1 o y z w n' (f1.tr f)) (fun y n' f => H0 y n' (f1.tr f))
end ZH
