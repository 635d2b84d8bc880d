/-! ===== dynamic codes: the reference, heads ===== -/
section YZ
variable {d : Nat} {m m' m2 n n' n2 : w_M} {Q : Int → w_M → Prop} {I f1 f2 g : Int → Int} {A base N O x c M v all at' : Int} {o : List Int} {n1 k2 k : Nat} {S0 : Int → Int × Int × Int}
/-- the reference: only these have changed -/
def y_df (n n' : w_M) : Prop := ∀ i j : Int, ¬ (i = 428 ∧ (j = 39 ∨ j = 40)) → ¬ (444 ≤ i ∧ i ≤ 450) → n' i j = n i j
theorem y_df.rf : y_df n n := fun _ _ _ _ => rfl
theorem y_df.tr (h : y_df n n') (h2 : y_df n' n2) : y_df n n2 := fun a b q q2 => (h2 a b q q2).trans (h a b q q2)
theorem y_rfr.df (h : y_rfr n n') : y_df n n' := fun i j q _ => h i j q
theorem y_rtf.df (h : y_rtf n n') : y_df n n' := fun i j _ q => h i j q
theorem y_df.b (h : y_df n n') : y_df n (w_up n' 428 40 c) := fun i j q q2 => by unfold w_up; rw [if_neg (by omega)]; exact h i j q q2
/-- all lengths: the reference; behind them the codes are made -/
theorem r_rs {f0 : Int → Int} {l1 l2 : Int} (hf0 : ∀ i : Nat, i < 19 → 0 ≤ f0 i ∧ f0 i ≤ 15) (h12 : 257 ≤ l1 ∧ l1 ≤ 286 ∧ 1 ≤ l2 ∧ l2 ≤ 30) : ∀ (k : Nat) (at' x : Int) (g : Int → Int) (n : w_M), l1 + l2 ≤ at' + k → 0 ≤ at' → at' ≤ l1 + l2 → y_K n N I x o → y_cn n 445 f0 19 → y_sy n 446 f0 19 19 → (∀ i, 0 ≤ i → i < at' → n 450 i = g i ∧ 0 ≤ g i ∧ g i ≤ 15) →
    (∀ x' g', y_rs I (8 * N) (y_S f0 19 I (8 * N)) (l1 + l2) k at' x g = (0, x', g') → ∀ n', y_df n n' → y_K n' N I x' o → (∀ i, 0 ≤ i → i < l1 + l2 → n' 450 i = g' i ∧ 0 ≤ g' i ∧ g' i ≤ 15) → xp_m_dynamic_322 (d + 2) l1 l2 0 n' Q) →
    ((y_rs I (8 * N) (y_S f0 19 I (8 * N)) (l1 + l2) k at' x g).1 = 1 → ∀ n', y_df n n' → n' 428 40 = 1 → Q 0 n' ∧ xp_m_dynamic_322 (d + 2) l1 l2 0 n' Q) → xp_m_dynamic_127 (d + 2) l1 l2 at' n Q := by
  intro k
  induction k with
  | zero =>
    intro at' x g n hk a0 a1 hK hc hs hg h1 h0
    apply xr_m_dynamic_127
    rw [w_32_id (x := l1 + l2) (by omega) (by omega), if_neg (by omega)]
    exact h1 x g rfl n y_df.rf hK (fun i q1 q2 => hg i q1 (by omega))
  | succ k ih =>
    intro at' x g n hk a0 a1 hK hc hs hg h1 h0
    have er : y_rs I (8 * N) (y_S f0 19 I (8 * N)) (l1 + l2) (k + 1) at' x g = (if at' < l1 + l2 then
      if (y_S f0 19 I (8 * N) x).1 = 1 then (1, x, g)
      else if (y_S f0 19 I (8 * N) x).2.1 < 16 then y_rs I (8 * N) (y_S f0 19 I (8 * N)) (l1 + l2) k (at' + 1) (y_S f0 19 I (8 * N) x).2.2 (y_fi g at' 1 (y_S f0 19 I (8 * N) x).2.1)
      else if (y_S f0 19 I (8 * N) x).2.1 = 16 ∧ at' = 0 then (1, x, g)
      else if 8 * N < (y_S f0 19 I (8 * N) x).2.2 + y_nb (y_S f0 19 I (8 * N) x).2.1 then (1, x, g)
      else if l1 + l2 < at' + (y_ad (y_S f0 19 I (8 * N) x).2.1 + y_V I (y_S f0 19 I (8 * N) x).2.2 (y_nb (y_S f0 19 I (8 * N) x).2.1)) then (1, x, g)
      else y_rs I (8 * N) (y_S f0 19 I (8 * N)) (l1 + l2) k (at' + (y_ad (y_S f0 19 I (8 * N) x).2.1 + y_V I (y_S f0 19 I (8 * N) x).2.2 (y_nb (y_S f0 19 I (8 * N) x).2.1))) ((y_S f0 19 I (8 * N) x).2.2 + y_nb (y_S f0 19 I (8 * N) x).2.1) (y_fi g at' (y_ad (y_S f0 19 I (8 * N) x).2.1 + y_V I (y_S f0 19 I (8 * N) x).2.2 (y_nb (y_S f0 19 I (8 * N) x).2.1)) (if (y_S f0 19 I (8 * N) x).2.1 = 16 then g (at' - 1) else 0))
      else (0, x, g)) := rfl
    rw [er] at h1 h0
    apply xr_m_dynamic_127
    rw [w_32_id (x := l1 + l2) (by omega) (by omega)]
    obtain ⟨j1, j2, j3, j4, j5, j6, j7, j8, j9⟩ := id hK
    by_cases za : at' < l1 + l2
    · rw [if_pos za] at h1 h0
      rw [if_pos za, if_pos j5]
      refine r_symbol (d := d) (k := 19) (Or.inl ⟨rfl, rfl, by decide⟩) hf0 hc hs j1 j9 j2 j3 j4 j5 (fun v x1 y1 v0 v1 vx vx1 m1 f1' e39 e40 => ?_) (fun v x1 y1 m1 f1' z0 z1 e40 => ?_)
      · have eS : y_S f0 19 I (8 * N) x = (0, v, x1) := y1
        rw [eS, if_neg (by show ¬ (0 : Int) = 1; decide)] at h1 h0
        simp only at h1 h0
        have K1 := hK.fr f1' e39 (by omega) vx1 e40
        rw [if_pos e40]
        -- the lengths are filled
        have fill : ∀ (r sv x2 : Int) (m2 : w_M), 0 ≤ sv → sv ≤ 15 → 0 < r → at' + r ≤ l1 + l2 → y_K m2 N I x2 o → y_rfr n m2 →
            (∀ x' g', y_rs I (8 * N) (y_S f0 19 I (8 * N)) (l1 + l2) k (at' + r) x2 (y_fi g at' r sv) = (0, x', g') → ∀ n', y_df n n' → y_K n' N I x' o → (∀ i, 0 ≤ i → i < l1 + l2 → n' 450 i = g' i ∧ 0 ≤ g' i ∧ g' i ≤ 15) → xp_m_dynamic_322 (d + 2) l1 l2 0 n' Q) →
            ((y_rs I (8 * N) (y_S f0 19 I (8 * N)) (l1 + l2) k (at' + r) x2 (y_fi g at' r sv)).1 = 1 → ∀ n', y_df n n' → n' 428 40 = 1 → Q 0 n' ∧ xp_m_dynamic_322 (d + 2) l1 l2 0 n' Q) →
            xp_m_dynamic_291 (d + 2) l1 l2 at' sv r 0 m2 Q := by
          intro r sv x2 m2 s0 s1 r0 r1 K2 f2' g1 g0
          have loop : ∀ (c : Nat) (i : Int) (m3 : w_M), i + c = r → 0 ≤ i → (∀ p j : Int, ¬ (p = 428 ∧ (j = 39 ∨ j = 40)) → p ≠ 450 → m3 p j = n p j) → y_K m3 N I x2 o → (∀ p, 0 ≤ p → p < at' + i → m3 450 p = y_fi g at' r sv p ∧ 0 ≤ y_fi g at' r sv p ∧ y_fi g at' r sv p ≤ 15) → xp_m_dynamic_291 (d + 2) l1 l2 (at' + i) sv r i m3 Q := by
            intro c
            induction c with
            | zero =>
              intro i m3 hi i0 f3 K3 hg3
              apply xr_m_dynamic_291
              rw [if_neg (by omega)]
              have : i = r := by omega
              subst this
              exact ih (at' + i) x2 _ m3 (by omega) (by omega) (by omega) K3 (hc.fr' (fun j => f3 _ _ (by omega) (by decide))) (hs.fr' (fun j => f3 _ _ (by omega) (by decide))) hg3 (fun x' g' w1 m4 f4 => g1 x' g' w1 m4 (fun p j q q2 => (f4 p j q q2).trans (f3 p j q (by omega)))) (fun w1 m4 f4 => g0 w1 m4 (fun p j q q2 => (f4 p j q q2).trans (f3 p j q (by omega))))
            | succ c ihc =>
              intro i m3 hi i0 f3 K3 hg3
              apply xr_m_dynamic_291
              rw [if_pos (by omega), w_32_id (x := at' + i + 1) (by omega) (by omega), w_32_id (x := i + 1) (by omega) (by omega), show at' + i + 1 = at' + (i + 1) by omega]
              refine ⟨by omega, ihc (i + 1) _ (by omega) (by omega) (fun p j q q2 => ?_) (K3.tf (fun p j q => by rw [w_up_ne (by omega)])) (fun p p0 p1 => ?_)⟩
              · rw [w_up_ne q2]; exact f3 p j q q2
              · by_cases w : p = at' + i
                · rw [w, w_up_eq]
                  have : y_fi g at' r sv (at' + i) = sv := by unfold y_fi; rw [if_pos ⟨by omega, by omega⟩]
                  rw [this]
                  exact ⟨rfl, s0, s1⟩
                · rw [w_up_nb w]
                  exact hg3 p p0 (by omega)
          have := loop r.toNat 0 m2 (by omega) (by decide) (fun p j q _ => f2' p j q) K2 (fun p p0 p1 => ?_)
          · rw [Int.add_zero] at this
            exact this
          · have e : y_fi g at' r sv p = g p := by unfold y_fi; rw [if_neg (by omega)]
            rw [e, f2' _ _ (by omega)]
            exact hg p p0 (by omega)
        by_cases w15 : v < 16
        · rw [if_pos w15]
          rw [if_pos w15] at h1 h0
          rw [w_32_id (x := at' + 1) (by omega) (by omega)]
          refine ⟨by omega, ?_⟩
          have K2 : y_K (w_up m1 450 at' v) N I x1 o := K1.tf (fun p j q => by rw [w_up_ne (by omega)])
          refine ih (at' + 1) x1 _ _ (by omega) (by omega) (by omega) K2 (hc.fr' (fun j => by rw [w_up_ne (by decide)]; exact f1' _ _ (by omega))) (hs.fr' (fun j => by rw [w_up_ne (by decide)]; exact f1' _ _ (by omega))) (fun p p0 p1 => ?_) (fun x' g' w1 m4 f4 => h1 x' g' w1 m4 (fun p j q q2 => (f4 p j q q2).trans (by rw [w_up_ne (by omega)]; exact f1' p j q))) (fun w1 m4 f4 => h0 w1 m4 (fun p j q q2 => (f4 p j q q2).trans (by rw [w_up_ne (by omega)]; exact f1' p j q)))
          by_cases w : p = at'
          · rw [w, w_up_eq]
            have : y_fi g at' 1 v at' = v := by unfold y_fi; rw [if_pos ⟨by omega, by omega⟩]
            rw [this]
            exact ⟨rfl, v0, by omega⟩
          · rw [w_up_nb w]
            have e : y_fi g at' 1 v p = g p := by unfold y_fi; rw [if_neg (by omega)]
            rw [e, f1' _ _ (by omega)]
            exact hg p p0 (by omega)
        · rw [if_neg w15]
          rw [if_neg w15] at h1 h0
          -- so many of the same
          have rep : ∀ (nb : Nat) (ad sv : Int), nb ≤ 7 → 3 ≤ ad → ad ≤ 11 → y_nb v = nb → y_ad v = ad → 0 ≤ sv → sv ≤ 15 → (if v = 16 then g (at' - 1) else 0) = sv → ¬ (v = 16 ∧ at' = 0) → xc_m_bits (d + 2) nb m1 (fun r1 m2 => if w_32 (l1 + l2) < w_32 (at' + w_32 (ad + r1)) then Q 0 (w_up m2 428 40 1) else xp_m_dynamic_291 (d + 2) l1 l2 at' sv (w_32 (ad + r1)) 0 m2 Q) := by
            intro nb ad sv n7 ad3 ad11 enb ead s0 s1 esv w16
            rw [if_neg w16, enb, ead, esv] at h1 h0
            have pnb : ((2 ^ nb : Nat) : Int) ≤ 128 := by have := Nat.pow_le_pow_right (show 0 < 2 by decide) n7; omega
            have hV := y_V_r I x1 nb
            rw [w_32_id (x := l1 + l2) (by omega) (by omega)]
            refine r_bits (d := d + 1) nb (by omega) K1.1 K1.2.2.2.2.2.2.2.2 e39 (by omega) vx1 (fun w => ?_) (fun w => ?_)
            · rw [if_neg (by omega)] at h1 h0
              have f3 : y_rfr n (w_up m1 428 39 (x1 + nb)) := fun i j q => by unfold w_up; rw [if_neg (by omega)]; exact f1' i j q
              have K2 := hK.fr f3 w_up_eq (by omega) w (by rw [w_up_nb (by decide)]; exact e40)
              rw [w_32_id (x := ad + y_V I x1 nb) (by omega) (by omega), w_32_id (x := at' + (ad + y_V I x1 nb)) (by omega) (by omega)]
              by_cases wl : l1 + l2 < at' + (ad + y_V I x1 nb)
              · rw [if_pos wl]
                rw [if_pos wl] at h0
                exact (h0 rfl _ f3.df.b w_up_eq).1
              · rw [if_neg wl]
                rw [if_neg wl] at h1 h0
                exact fill _ sv _ _ s0 s1 (by omega) (by omega) K2 f3 h1 h0
            · rw [if_pos (by omega)] at h0
              have f3 : y_rfr n (w_up (w_up m1 428 39 (8 * N)) 428 40 1) := fun i j q => by unfold w_up; rw [if_neg (by omega), if_neg (by omega)]; exact f1' i j q
              have h0' := fun n' => h0 rfl n'
              rw [w_32_id (x := ad + 0) (by omega) (by omega), w_32_id (x := at' + (ad + 0)) (by omega) (by omega)]
              by_cases wl : l1 + l2 < at' + (ad + 0)
              · rw [if_pos wl]
                exact (h0' _ f3.df.b w_up_eq).1
              · rw [if_neg wl]
                -- the rest is filled, and the loop ends
                have loop : ∀ (c : Nat) (i : Int) (m3 : w_M), i + c = ad → 0 ≤ i → y_df n m3 → m3 428 40 = 1 → xp_m_dynamic_291 (d + 2) l1 l2 (at' + i) sv (ad + 0) i m3 Q := by
                  intro c
                  induction c with
                  | zero =>
                    intro i m3 hi i0 f4 b4
                    apply xr_m_dynamic_291
                    rw [if_neg (by omega)]
                    apply xr_m_dynamic_127
                    rw [w_32_id (x := l1 + l2) (by omega) (by omega), if_neg (show ¬ m3 428 40 = 0 by omega)]
                    have go := (h0' m3 f4 b4).2
                    split
                    · exact go
                    · exact go
                  | succ c ihc =>
                    intro i m3 hi i0 f4 b4
                    apply xr_m_dynamic_291
                    rw [if_pos (by omega), w_32_id (x := at' + i + 1) (by omega) (by omega), w_32_id (x := i + 1) (by omega) (by omega), show at' + i + 1 = at' + (i + 1) by omega]
                    exact ⟨by omega, ihc (i + 1) _ (by omega) (by omega) (fun p j q q2 => by rw [w_up_ne (by omega)]; exact f4 p j q q2) (by rw [w_up_ne (by decide)]; exact b4)⟩
                have := loop ad.toNat 0 _ (by omega) (by decide) f3.df w_up_eq
                rw [Int.add_zero] at this
                exact this
          have e450 : ∀ j : Int, m1 450 j = n 450 j := fun j => f1' _ _ (by omega)
          by_cases w16 : v = 16
          · rw [if_pos w16]
            by_cases wa : at' = 0
            · rw [if_pos wa]
              rw [if_pos ⟨w16, wa⟩] at h0
              exact (h0 rfl _ f1'.df.b w_up_eq).1
            · rw [if_neg wa, if_pos w16, w_32_id (x := at' - 1) (by omega) (by omega)]
              refine ⟨by omega, ?_⟩
              obtain ⟨hg1, hg2, hg3⟩ := hg (at' - 1) (by omega) (by omega)
              rw [e450, hg1]
              apply xr_m_dynamic_224
              rw [if_pos w16]
              exact rep 2 3 (g (at' - 1)) (by decide) (by decide) (by decide) (by unfold y_nb; rw [if_pos w16]) (by unfold y_ad; rw [if_neg (by omega)]) hg2 hg3 (by rw [if_pos w16]) (fun y => wa y.2)
          · rw [if_neg w16, if_neg w16]
            apply xr_m_dynamic_224
            rw [if_neg w16]
            by_cases w17 : v = 17
            · rw [if_pos w17]
              exact rep 3 3 0 (by decide) (by decide) (by decide) (by unfold y_nb; rw [if_neg w16, if_pos w17]) (by unfold y_ad; rw [if_neg (by omega)]) (by decide) (by decide) (by rw [if_neg w16]) (fun y => w16 y.1)
            · rw [if_neg w17]
              exact rep 7 11 0 (by decide) (by decide) (by decide) (by unfold y_nb; rw [if_neg w16, if_neg w17]) (by unfold y_ad; rw [if_pos (by omega)]) (by decide) (by decide) (by rw [if_neg w16]) (fun y => w16 y.1)
      · have eS : y_S f0 19 I (8 * N) x = (1, v, x1) := y1
        rw [eS, if_pos rfl] at h0
        rw [if_neg (by omega)]
        exact (h0 rfl m1 f1'.df e40).1
    · rw [if_neg za] at h1 h0
      rw [if_neg za]
      exact h1 x g rfl n y_df.rf hK (fun i q1 q2 => hg i q1 (by omega))
/-- the lengths are taken, and the codes are made: the reference -/
theorem r_dyn_322 {l1 l2 : Nat} {g : Int → Int} (h12 : 257 ≤ l1 ∧ l1 ≤ 286 ∧ 1 ≤ l2 ∧ l2 ≤ 30) (hK : y_K n N I x o) (hg : ∀ i, 0 ≤ i → i < (l1 : Int) + l2 → n 450 i = g i ∧ 0 ≤ g i ∧ g i ≤ 15)
    (h1 : y_ok g l1 l2 → ∀ n', y_df n n' → y_K n' N I x o → y_tb n' 445 446 447 448 g l1 (fun i => g (l1 + i)) l2 → Q 0 n') (h0 : ¬ y_ok g l1 l2 → ∀ n', y_df n n' → n' 428 40 = 1 → Q 0 n') : xp_m_dynamic_322 (d + 2) l1 l2 0 n Q := by
  have take : ∀ (k : Nat) (i : Int) (m' : w_M), i + k = (l1 : Int) + l2 → 0 ≤ i → y_rtf n m' → (∀ j : Int, m' 450 j = n 450 j) → (∀ j, 0 ≤ j → j < i → m' 444 j = g j) → xp_m_dynamic_322 (d + 2) l1 l2 i m' Q := by
    intro k
    induction k with
    | zero =>
      intro i m' hi i0 f e450 h444
      have K1 := hK.tf f
      apply xr_m_dynamic_322
      rw [w_32_id (x := (l1 : Int) + l2) (by omega) (by omega), if_neg (by omega), if_pos K1.2.2.2.2.1, h444 256 (by decide) (by omega)]
      by_cases w : g 256 = 0
      · rw [if_pos w]
        apply xr_m_dynamic_390
        rw [if_neg (by decide)]
        exact h0 (fun y => y.1 w) _ f.df.b w_up_eq
      · rw [if_neg w]
        have hgl : ∀ i : Nat, i < l1 → 0 ≤ g i ∧ g i ≤ 15 := fun i hi => (hg i (by omega) (by omega)).2
        refine r_build (d := d + 1) (k := l1) (f := g) (Or.inl ⟨rfl, rfl, by omega⟩) ⟨by decide, by omega⟩ (fun j hj => ⟨by rw [Int.zero_add]; exact h444 j (by omega) (by omega), hgl j hj⟩) (fun m2 b1 b2 b3 => ?_)
        have f2 : y_rtf n m2 := fun i j q => (b1 i j (by omega) (by omega) (by omega)).trans (f i j q)
        by_cases w1 : y_lf (y_c g l1) 15 1 1 = 0
        · rw [if_pos w1]
          have s1 := b3 (by omega)
          apply xr_m_dynamic_390
          rw [if_pos rfl]
          have hg2 : ∀ i : Nat, i < l2 → m2 444 ((l1 : Int) + i) = g (l1 + i) ∧ 0 ≤ g (l1 + i) ∧ g (l1 + i) ≤ 15 := fun i hi => ⟨by rw [b1 _ _ (by decide) (by decide) (by decide)]; exact h444 _ (by omega) (by omega), (hg _ (by omega) (by omega)).2⟩
          refine r_build (d := d + 1) (k := l2) (f := fun i => g (l1 + i)) (Or.inr ⟨rfl, rfl, by omega⟩) ⟨by omega, by omega⟩ hg2 (fun m3 c1 c2 c3 => ?_)
          have f3 : y_rtf n m3 := fun i j q => (c1 i j (by omega) (by omega) (by omega)).trans (f2 i j q)
          have z0 := c2 0 (by decide) (by decide)
          have z1 := c2 1 (by decide) (by decide)
          have r0 := y_c_r (fun i => g ((l1 : Int) + i)) 0 l2
          obtain ⟨c0v, hc0⟩ : ∃ c0v, c0v = y_c (fun i => g ((l1 : Int) + i)) l2 0 := ⟨_, rfl⟩
          obtain ⟨c1v, hc1⟩ : ∃ c1v, c1v = y_c (fun i => g ((l1 : Int) + i)) l2 1 := ⟨_, rfl⟩
          obtain ⟨lv, hlv⟩ : ∃ lv, lv = y_lf (y_c (fun i => g ((l1 : Int) + i)) l2) 15 1 1 := ⟨_, rfl⟩
          unfold y_ok at h1 h0
          rw [← hc0] at z0 r0
          rw [← hc1] at z1
          simp only [← hc0, ← hc1, ← hlv] at h1 h0 c3 ⊢
          have K3 := hK.tf f3
          have tb : 0 ≤ lv → y_tb (w_up m3 428 40 0) 445 446 447 448 g l1 (fun i => g (l1 + i)) l2 := by
            intro y
            refine ⟨fun l q1 q2 => ?_, fun i q1 q2 => ?_, fun l q1 q2 => ?_, fun i q1 q2 => ?_⟩
            · rw [w_up_ne (by decide), c1 _ _ (by decide) (by decide) (by decide)]; exact b2 l q1 q2
            · rw [w_up_ne (by decide), c1 _ _ (by decide) (by decide) (by decide)]; exact s1 i q1 q2
            · rw [w_up_ne (by decide)]; exact c2 l q1 q2
            · rw [w_up_ne (by decide)]; exact c3 y i q1 q2
          have K4 : y_K (w_up m3 428 40 0) N I x o := by rw [w_up_id K3.2.2.2.2.1]; exact K3
          by_cases q1 : lv < 0
          · rw [if_pos q1]
            exact h0 (fun y => by omega) _ f3.df.b w_up_eq
          · rw [if_neg q1]
            by_cases q2 : 0 < lv
            · rw [if_pos q2, z0, z1, w_32_id (x := (l2 : Int) - c0v) (by omega) (by omega)]
              by_cases q3 : 1 < (l2 : Int) - c0v
              · rw [if_pos q3]
                exact h0 (fun y => by omega) _ f3.df.b w_up_eq
              · rw [if_neg q3]
                by_cases q4 : (l2 : Int) - c0v = 1
                · rw [if_pos q4]
                  by_cases q5 : c1v = 1
                  · rw [if_pos q5]
                    exact h1 ⟨w, w1, Or.inr ⟨q2, Or.inr ⟨by omega, q5⟩⟩⟩ _ f3.df.b K4 (tb (by omega))
                  · rw [if_neg q5]
                    exact h0 (fun y => by omega) _ f3.df.b w_up_eq
                · rw [if_neg q4]
                  exact h1 ⟨w, w1, Or.inr ⟨q2, Or.inl (by omega)⟩⟩ _ f3.df.b K4 (tb (by omega))
            · rw [if_neg q2]
              exact h1 ⟨w, w1, Or.inl (by omega)⟩ _ f3.df.b K4 (tb (by omega))
        · rw [if_neg w1]
          apply xr_m_dynamic_390
          rw [if_neg (by decide)]
          exact h0 (fun y => w1 y.2.1) _ f2.df.b w_up_eq
    | succ k ih =>
      intro i m' hi i0 f e450 h444
      apply xr_m_dynamic_322
      rw [w_32_id (x := (l1 : Int) + l2) (by omega) (by omega), if_pos (by omega), w_32_id (x := i + 1) (by omega) (by omega), e450, (hg i i0 (by omega)).1]
      refine ⟨by omega, by omega, ih (i + 1) _ (by omega) (by omega) (fun p j q => by rw [w_up_ne (by omega)]; exact f p j q) (fun j => by rw [w_up_ne (by decide)]; exact e450 j) (fun j q1 q2 => ?_)⟩
      by_cases z : j = i
      · rw [z, w_up_eq]
      · rw [w_up_nb z]; exact h444 j q1 (by omega)
  exact take (l1 + l2) 0 n (by omega) (by decide) (fun _ _ _ => rfl) (fun _ => rfl) (fun j q1 q2 => by omega)
/-- where all has broken -/
theorem r_dyn_322_b {l1 l2 : Int} (h12 : 0 ≤ l1 + l2 ∧ l1 + l2 ≤ 316) (h40 : n 428 40 = 1) (h0 : ∀ n', y_df n n' → n' 428 40 = 1 → Q 0 n') : xp_m_dynamic_322 (d + 2) l1 l2 0 n Q := by
  have take : ∀ (k : Nat) (i : Int) (m' : w_M), i + k = l1 + l2 → 0 ≤ i → y_rtf n m' → xp_m_dynamic_322 (d + 2) l1 l2 i m' Q := by
    intro k
    induction k with
    | zero =>
      intro i m' hi i0 f
      apply xr_m_dynamic_322
      rw [w_32_id (x := l1 + l2) (by omega) (by omega), if_neg (by omega), if_neg (by rw [f _ _ (by omega)]; omega)]
      apply xr_m_dynamic_390
      rw [if_neg (by decide)]
      exact h0 _ f.df.b w_up_eq
    | succ k ih =>
      intro i m' hi i0 f
      apply xr_m_dynamic_322
      rw [w_32_id (x := l1 + l2) (by omega) (by omega), if_pos (by omega), w_32_id (x := i + 1) (by omega) (by omega)]
      exact ⟨by omega, by omega, ih (i + 1) _ (by omega) (by omega) (fun p j q => by rw [w_up_ne (by omega)]; exact f p j q)⟩
  exact take (l1 + l2).toNat 0 n (by omega) (by decide) (fun _ _ _ => rfl)
end YZ
