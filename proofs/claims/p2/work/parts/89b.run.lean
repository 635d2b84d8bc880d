/-! ===== whole zlib streams: the class ===== -/
section YX
variable {d : Nat} {m m' m2 n n' n2 : w_M} {Q : Int → w_M → Prop} {I f1 f2 g : Int → Int} {A base N O x c M v l8 : Int} {o : List Int}
theorem sp_in_last (hJ : y_J m A base N I O x o) (x0 : 0 ≤ x) (h1 : y_end I N x o → ∀ m', y_cf O m m' → m' 379 10 = o.length → (∀ i : Nat, i < o.length → m' O i = o.getD i 0) → Q o.length m') (h0 : ¬ y_end I N x o → ∀ m', y_cf O m m' → Q (-1) m') : xp_in_run_125 (d + 4) A 1 l8 m Q := by
  have key : xc_in_endsWell (d + 4) m (fun r11 m11 => if r11 = 0 then Q (-1) m11 else Q (m11 379 10) m11) := by
    refine sp_in_endsWell (d := d + 1) hJ x0 (fun y m' c a b => ?_) (fun y m' c => ?_)
    · rw [if_neg (by decide), a]
      exact h1 y m' c a b
    · rw [if_pos rfl]
      exact h0 y m' c
  apply xr_in_run_125
  refine ⟨hJ.1.2.2.2.1, ?_⟩
  split
  · rw [if_pos rfl]
    exact key
  · rw [if_neg (by decide), if_pos rfl]
    exact key
theorem y_f1_r (i : Int) : 0 ≤ y_f1 i ∧ y_f1 i ≤ 15 := by
  unfold y_f1
  split
  · decide
  · split
    · decide
    · split <;> decide
theorem sp_in_run_125 (hO : O = 387 ∨ O = 388) : ∀ (k : Nat) (l8 x : Int) (o : List Int) (m : w_M), 8 * N + 1 ≤ x + k → 0 ≤ l8 → 3 * l8 + 16 ≤ x → y_sts m → y_J m A base N I O x o → y_by o →
    (∀ x' o', y_blk I (8 * N) k x o = (0, x', o') → y_end I N x' o' → y_by o' → ∀ m', y_cf O m m' → m' 379 10 = o'.length → (∀ i : Nat, i < o'.length → m' O i = o'.getD i 0) → Q o'.length m') →
    ((¬ ∃ x' o', y_blk I (8 * N) k x o = (0, x', o') ∧ y_end I N x' o') → ∀ m', y_cf O m m' → Q (-1) m') → xp_in_run_125 (d + 4) A 0 l8 m Q := by
  intro k
  induction k with
  | zero =>
    intro l8 x o m hk _ _ _ hJ _ _ _
    obtain ⟨_, ⟨h, _, _, j4⟩, _⟩ := hJ
    exact absurd j4 (by omega)
  | succ k ih =>
    intro l8 x o m hk l0 l3 hst hJ hby H1 H0
    obtain ⟨j1, ⟨h, j2, j3, j4⟩, _⟩ := id hJ
    obtain ⟨_, _, _, hA, b0, N0, bN, lnA, _⟩ := id j1
    apply xr_in_run_125
    refine ⟨hA, ?_⟩
    rw [if_neg (by rw [w_32_id (by omega) (by omega)]; omega), if_pos rfl]
    have e1' : x + ((1 : Nat) : Int) = x + 1 := rfl
    have p1 : ((2 ^ 1 : Nat) : Int) = 2 := rfl
    have p2 : ((2 ^ 2 : Nat) : Int) = 4 := rfl
    refine sp_in_bits (d := d + 3) 1 (by decide) j1 j2 j3 j4 (fun w m1 h1' f1 at1 h17 hx1 => ?_) (fun w m1 h1' f1 at1 hxe hlt => ?_)
    · rw [e1'] at w at1 hx1
      have J1 := hJ.fr f1 at1 h17 hx1
      have rl := y_V_r I x 1
      have rw' := y_V_r I (x + 1) 2
      refine sp_in_bits (d := d + 3) 2 (by decide) J1.1 at1 h17 hx1 (fun w2 m2 h2 f2 at2 h27 hx2 => ?_) (fun w2 m2 h2 f2 at2 hxe hlt => ?_)
      · have e2' : x + 1 + ((2 : Nat) : Int) = x + 3 := by omega
        rw [e2'] at w2 at2 hx2
        have J2 := J1.fr f2 at2 h27 hx2
        have c2 : y_cf O m m2 := (f1.tr f2).of.cf
        have s2 := hst.cf hO c2
        have hM : ¬ 8 * N < x + 3 := by omega
        obtain ⟨wv, hwv⟩ : ∃ wv, wv = y_V I (x + 1) 2 := ⟨_, rfl⟩
        obtain ⟨lv, hlv⟩ : ∃ lv, lv = y_V I x 1 := ⟨_, rfl⟩
        rw [← hwv, ← hlv]
        rw [← hwv] at rw'
        rw [← hlv] at rl
        have next : ∀ (m3 : w_M) (x' : Int) (o' : List Int), y_bk I (8 * N) wv (x + 3) o = (0, x', o') → y_by o' → y_cf O m m3 → y_J m3 A base N I O x' o' → xp_in_run_125 (d + 4) A lv (w_32 (l8 + 1)) m3 Q := by
          intro m3 x' o' e by' c3 J3
          have hne : (y_bk I (8 * N) (y_V I (x + 1) 2) (x + 3) o).1 ≠ 1 := by
            rw [← hwv, e]
            exact (by decide : (0 : Int) ≠ 1)
          have hle : x + 3 ≤ x' := y_bk_le _ e (by decide : (0 : Int) ≠ 1)
          have e' : y_bk I (8 * N) (y_V I (x + 1) 2) (x + 3) o = (0, x', o') := by rw [← hwv]; exact e
          have hJx := J3.2.1
          by_cases z : lv = 1
          · rw [z]
            have eb : y_blk I (8 * N) (k + 1) x o = (0, x', o') := (blk_l hM hne (by rw [← hlv]; exact z)).trans e'
            refine sp_in_last J3 (by omega) (fun y m4 c4 a b => H1 x' o' eb y by' m4 (c3.tr c4) a b) (fun y m4 c4 => H0 (fun ⟨x2, o2, q1, q2⟩ => ?_) m4 (c3.tr c4))
            rw [eb] at q1
            have q3 := Prod.mk.inj (Prod.mk.inj q1).2
            rw [← q3.1, ← q3.2] at q2
            exact y q2
          · have z0 : lv = 0 := by omega
            obtain ⟨hh, t1, t2, t3⟩ := hJx
            rw [z0, w_32_id (by omega) (by omega)]
            have eb : y_blk I (8 * N) (k + 1) x o = y_blk I (8 * N) k x' o' := by
              rw [blk_s hM hne (by rw [← hlv]; exact z), e']
            refine ih (l8 + 1) x' o' m3 (by omega) (by omega) (by omega) (hst.cf hO c3) J3 by' (fun x2 o2 q1 q2 q3 m4 c4 a b => H1 x2 o2 (eb.trans q1) q2 q3 m4 (c3.tr c4) a b) (fun y m4 c4 => H0 (fun ⟨x2, o2, q1, q2⟩ => y ⟨x2, o2, eb.symm.trans q1, q2⟩) m4 (c3.tr c4))
        have fail : ∀ m3, (y_bk I (8 * N) wv (x + 3) o).1 = 1 → y_cf O m m3 → Q (-1) m3 := by
          intro m3 e c3
          refine H0 (fun ⟨x2, o2, q1, q2⟩ => ?_) m3 c3
          rw [blk_1 hM (by rw [← hwv]; exact e)] at q1
          have : (1 : Int) = 0 := congrArg Prod.fst q1
          exact absurd this (by decide)
        have nl : ¬ lv < 0 := by omega
        by_cases z0 : wv = 0
        · rw [if_pos z0]
          refine sp_in_stored (d := d) (by omega) J2 hby (fun x' o' e by' hle m3 f3 J3 => ?_) (fun e m3 f3 => ?_)
          · rw [if_neg nl, if_neg (by decide)]
            exact next m3 x' o' (by rw [z0, bk_0]; exact e) by' (c2.tr f3.cf) J3
          · rw [if_neg nl, if_pos rfl]
            exact fail m3 (by rw [z0, bk_0]; exact e) (c2.tr f3.cf)
        · rw [if_neg z0]
          by_cases z1 : wv = 1
          · rw [if_pos z1]
            refine sp_in_fixed (d := d + 1) (fun m3 t3 tb3 => ?_)
            apply xr_in_decode
            refine sp_in_decode_2 (d := d) (n1 := 288) (k2 := 30) (f1 := y_f1) (f2 := y_f2) (fun i _ => y_f1_r i) (by decide) (fun i _ => ⟨by show (0 : Int) ≤ 5; decide, by show (5 : Int) ≤ 15; decide⟩) (by decide) 8001 0 (x + 3) o m3 (by decide) (by decide) (by omega) (s2.cf hO t3.cf) tb3 (J2.tf t3) hby (fun x' o' e by' hle m4 f4 J4 => ?_) (fun e m4 f4 => ?_)
            · rw [if_neg nl, if_neg (by decide)]
              exact next m4 x' o' (by rw [z1, bk_1]; exact e) by' (c2.tr (t3.cf.tr f4.cf)) J4
            · rw [if_neg nl, if_pos rfl]
              exact fail m4 (by rw [z1, bk_1]; exact e) (c2.tr (t3.cf.tr f4.cf))
          · rw [if_neg z1]
            by_cases z2 : wv = 2
            · rw [if_pos z2]
              refine sp_in_readCodes (d := d + 1) s2 J2 (by omega) (fun q1 q2 q3 q4 q5 m3 c3 J3 e11 e12 cn sy => ?_) (fun q m3 c3 => ?_)
              · rw [if_neg (by decide)]
                apply xr_in_readSizes
                have v5 := y_V_r I (x + 3) 5
                have v52 := y_V_r I (x + 3 + 5) 5
                have v4 := y_V_r I (x + 3 + 10) 4
                have rL : 257 ≤ y_lits I (x + 3) := by unfold y_lits; omega
                have rD : 1 ≤ y_dsts I (x + 3) := by unfold y_dsts; omega
                have rM : 4 ≤ y_many I (x + 3) := by unfold y_many; omega
                rw [e11, e12, w_32_id (by omega) (by omega)]
                have hh : y_hdr I (8 * N) (x + 3) := ⟨q1, q2, q3, q4, q5⟩
                have eL : ((y_lits I (x + 3)).toNat : Int) = y_lits I (x + 3) := by omega
                have eD : ((y_dsts I (x + 3)).toNat : Int) = y_dsts I (x + 3) := by omega
                refine sp_in_rs (d := d + 1) (f0 := y_f0 I (x + 3 + 14) (y_many I (x + 3))) (all := y_lits I (x + 3) + y_dsts I (x + 3)) (fun i _ => y_f0_r i) ⟨by omega, by omega⟩ (y_lits I (x + 3) + y_dsts I (x + 3)).toNat 0 (x + 3 + 14 + 3 * y_many I (x + 3)) (fun _ => 0) m3 (by omega) (by decide) (by omega) J3 cn sy (fun i q1 q2 => by omega) (fun x' g' er hle m4 f4 J4 g4 => ?_) (fun er m4 f4 => ?_)
                · have ers : y_rsx I (8 * N) (x + 3) = (0, x', g') := er
                  have c4 : y_cf O m3 m4 := fun i j w1 w2 w3 => f4 i j (by omega) (by omega)
                  rw [if_neg (by decide)]
                  refine sp_in_dynamicCodes (d := d + 1) (l1 := (y_lits I (x + 3)).toNat) (l2 := (y_dsts I (x + 3)).toNat) (g := g') (by omega) (by rw [f4 _ _ (by omega) (by decide), e11, eL]) (by rw [f4 _ _ (by omega) (by decide), e12, eD]) (fun i w1 w2 => g4 i w1 (by omega)) (fun ok m5 t5 tb5 => ?_) (fun ok m5 t5 => ?_)
                  · rw [if_neg (by decide)]
                    have hd : y_dok I (8 * N) (x + 3) := ⟨hh, by rw [ers], by rw [ers]; exact ok⟩
                    have c5 : y_cf O m m5 := c2.tr (c3.tr (c4.tr t5.cf))
                    apply xr_in_decode
                    refine sp_in_decode_2 (d := d) (n1 := (y_lits I (x + 3)).toNat) (k2 := (y_dsts I (x + 3)).toNat) (f1 := g') (f2 := fun i => g' ((y_lits I (x + 3)).toNat + i)) (fun i hi => (g4 i (by omega) (by omega)).2) (by omega) (fun i hi => (g4 _ (by omega) (by omega)).2) (by omega) 8001 0 x' o m5 (by decide) (by decide) (by omega) (hst.cf hO c5) tb5 (J4.tf t5) hby (fun x2 o2 e by' hle m6 f6 J6 => ?_) (fun e m6 f6 => ?_)
                    · rw [if_neg (by decide), if_neg nl]
                      exact next m6 x2 o2 (by rw [z2, bk_2 hd, ers]; exact e) by' (c5.tr f6.cf) J6
                    · rw [if_pos rfl, if_neg nl]
                      exact fail m6 (by rw [z2, bk_2 hd, ers]; exact e) (c5.tr f6.cf)
                  · rw [if_pos rfl, if_neg nl]
                    refine fail m5 ?_ (c2.tr (c3.tr (c4.tr t5.cf)))
                    rw [z2, bk_2n (fun y => ok (by have := y.2.2; rw [ers] at this; exact this))]
                · have c4 : y_cf O m3 m4 := fun i j w1 w2 w3 => f4 i j (by omega) (by omega)
                  rw [if_pos rfl, if_neg nl]
                  refine fail m4 ?_ (c2.tr (c3.tr c4))
                  have er' : (y_rsx I (8 * N) (x + 3)).1 = 1 := er
                  rw [z2, bk_2n (fun y => by have := y.2.1; omega)]
              · rw [if_pos rfl, if_neg nl]
                exact fail m3 (by rw [z2, bk_2n (fun y => q y.1)]) (c2.tr c3)
            · rw [if_neg z2, if_neg nl]
              refine fail m2 ?_ c2
              have e : y_bk I (8 * N) wv (x + 3) o = (1, x + 3, o) := (if_neg z0).trans ((if_neg z1).trans (if_neg z2))
              rw [e]
      · rw [if_neg (by decide), if_neg (by decide), if_neg (by decide), if_neg (by omega)]
        refine H0 (fun ⟨x2, o2, q1, q2⟩ => ?_) m2 (f1.tr f2).of.cf
        rw [blk_0 (by omega)] at q1
        have : (1 : Int) = 0 := congrArg Prod.fst q1
        exact absurd this (by decide)
    · refine sp_in_bits (d := d + 3) 2 (by decide) (j1.fr f1) at1 (by omega) (by omega) (fun w2 => by omega) (fun w2 m2 h2 f2 at2 hxe hlt => ?_)
      rw [if_neg (by decide), if_neg (by decide), if_neg (by decide), if_pos (by decide)]
      refine H0 (fun ⟨x2, o2, q1, q2⟩ => ?_) m2 (f1.tr f2).of.cf
      rw [blk_0 (by omega)] at q1
      have : (1 : Int) = 0 := congrArg Prod.fst q1
      exact absurd this (by decide)
/-- what a run of the class changes -/
def y_rn (O : Int) (m m' : w_M) : Prop := ∀ i j : Int, ¬ (i = 379 ∧ 6 ≤ j) → ¬ (380 ≤ i ∧ i ≤ 385) → i ≠ O → m' i j = m i j
theorem sp_in_run (hO : O = 387 ∨ O = 388) (hst : y_sts m) (hA0 : 0 ≤ A) (hAn : A ≠ 379) (hAO : A ≠ O) (hAa : w_isA 1 A) (hAr : w_isR A) (b0 : 0 ≤ base) (N0 : 0 ≤ N) (bN : base + N ≤ w_ln A) (lnA : w_ln A ≤ 200000) (hI : ∀ i, 0 ≤ i → i < N → m A (base + i) % 256 = I i)
    (H1 : ∀ o, y_zl I N o → y_by o → ∀ m', y_rn O m m' → m' 379 10 = o.length → (∀ i : Nat, i < o.length → m' O i = o.getD i 0) → Q o.length m') (H0 : (¬ ∃ o, y_zl I N o) → ∀ m', y_rn O m m' → Q (-1) m') : xc_in_run (d + 5) A base N O m Q := by
  have hO2 := y_oO hO
  apply xr_in_run
  refine ⟨hAr, ?_⟩
  have eb : max 0 base = base := by omega
  have eN : max 0 N = N := by omega
  rw [eb, eN, w_32_id (x := base + N) (by omega) (by omega), show min (base + N) (w_ln A) = base + N by omega]
  obtain ⟨m0, hm0⟩ : ∃ m0, m0 = w_up (w_up (w_up (w_up (w_up (w_up (w_up m 379 6 A) 379 9 O) 379 7 base) 379 8 (base + N)) 379 10 0) 379 13 0) 379 14 0 := ⟨_, rfl⟩
  rw [← hm0]
  have fr0 : ∀ i j : Int, ¬ (i = 379 ∧ 6 ≤ j) → m0 i j = m i j := fun i j q => by
    rw [hm0]
    unfold w_up
    rw [if_neg (by omega), if_neg (by omega), if_neg (by omega), if_neg (by omega), if_neg (by omega), if_neg (by omega), if_neg (by omega)]
  have g6 : m0 379 6 = A := by rw [hm0, w_up_nb (by decide), w_up_nb (by decide), w_up_nb (by decide), w_up_nb (by decide), w_up_nb (by decide), w_up_nb (by decide), w_up_eq]
  have g9 : m0 379 9 = O := by rw [hm0, w_up_nb (by decide), w_up_nb (by decide), w_up_nb (by decide), w_up_nb (by decide), w_up_nb (by decide), w_up_eq]
  have g7 : m0 379 7 = base := by rw [hm0, w_up_nb (by decide), w_up_nb (by decide), w_up_nb (by decide), w_up_nb (by decide), w_up_eq]
  have g8 : m0 379 8 = base + N := by rw [hm0, w_up_nb (by decide), w_up_nb (by decide), w_up_nb (by decide), w_up_eq]
  have g10 : m0 379 10 = 0 := by rw [hm0, w_up_nb (by decide), w_up_nb (by decide), w_up_eq]
  have g13 : m0 379 13 = 0 := by rw [hm0, w_up_nb (by decide), w_up_eq]
  have g14 : m0 379 14 = 0 := by rw [hm0, w_up_eq]
  have hat0 : y_at m0 base I 0 0 := ⟨by rw [g7]; omega, by decide, g14, g13, by decide⟩
  have hJ0 : y_J m0 A base N I O 0 [] := ⟨⟨hA0, hAn, hAa, hAr, b0, N0, bN, lnA, g6, g8, fun i q1 q2 => by rw [fr0 _ _ (by omega)]; exact hI i q1 q2⟩, ⟨0, hat0, by decide, by omega⟩, g9, hO, hAO, g10, by decide, fun i hi => absurd hi (by simp)⟩
  have s0 : y_sts m0 := by
    obtain ⟨z1, z2, z3⟩ := hst
    exact ⟨fun s q1 q2 => by rw [fr0 _ _ (by omega), fr0 _ _ (by omega)]; exact z1 s q1 q2, fun s q1 q2 => by rw [fr0 _ _ (by omega), fr0 _ _ (by omega)]; exact z2 s q1 q2, fun s q1 q2 => by rw [fr0 _ _ (by omega)]; exact z3 s q1 q2⟩
  have rn : ∀ {m'}, y_cf O m0 m' → y_rn O m m' := fun {m'} c i j w1 w2 w3 => by
    rw [c i j (by omega) w2 w3]
    exact fr0 i j w1
  have rb : ∀ i, 0 ≤ i → i < N → 0 ≤ I i ∧ I i < 256 := fun i q1 q2 => by
    have := hI i q1 q2
    omega
  have e8' : (0 : Int) + ((8 : Nat) : Int) = 8 := by decide
  have e16' : (8 : Int) + ((8 : Nat) : Int) = 16 := by decide
  refine sp_in_bits (d := d + 3) 8 (by decide) hJ0.1 hat0 (by decide) (by omega) (fun w m1 h1' f1 at1 h17 hx1 => ?_) (fun w m1 h1' f1 at1 hxe hlt => ?_)
  · rw [e8'] at w at1 hx1
    have J1 := hJ0.fr f1 at1 h17 hx1
    have r0 := rb 0 (by decide) (by omega)
    have v0 : y_V I 0 8 = I 0 := y_V_byte (I := I) (p := 0) r0.1 r0.2
    rw [v0]
    refine sp_in_bits (d := d + 3) 8 (by decide) J1.1 at1 h17 hx1 (fun w2 m2 h2 f2 at2 h27 hx2 => ?_) (fun w2 m2 h2 f2 at2 hxe hlt => ?_)
    · rw [e16'] at w2 at2 hx2
      have J2 := J1.fr f2 at2 h27 hx2
      have c2 : y_cf O m0 m2 := (f1.tr f2).of.cf
      have r1 := rb 1 (by decide) (by omega)
      have v1 : y_V I 8 8 = I 1 := y_V_byte (I := I) (p := 1) r1.1 r1.2
      rw [v1, if_neg (by omega), w_32_id (x := I 0 * 256) (by omega) (by omega), w_32_id (x := I 0 * 256 + I 1) (by omega) (by omega), Int.tmod_eq_emod_of_nonneg (by omega)]
      have h32 := y_and32 r1.1 r1.2
      by_cases q1 : I 0 % 16 = 8
      · rw [if_pos q1]
        by_cases q2 : 7 < I 0 / 16
        · rw [if_pos q2]
          exact H0 (fun ⟨o, y, _⟩ => by have := y.2.2.1; omega) m2 (rn c2)
        · rw [if_neg q2]
          by_cases q3 : w_and (I 1) 32 = 0
          · rw [if_pos q3]
            by_cases q4 : (I 0 * 256 + I 1) % 31 = 0
            · rw [if_pos q4]
              have hb : y_beg I N := ⟨by omega, q1, by omega, h32.mp q3, q4⟩
              refine sp_in_run_125 (d := d) hO (8 * N + 1).toNat 0 16 [] m2 (by omega) (by decide) (by decide) (s0.cf hO c2) J2 (fun i hi => absurd hi (by simp)) (fun x' o' e y by' m3 c3 a b => H1 o' ⟨hb, x', e, y⟩ by' m3 (rn (c2.tr c3)) a b) (fun y m3 c3 => H0 (fun ⟨o, _, x', e, y2⟩ => y ⟨x', o, e, y2⟩) m3 (rn (c2.tr c3)))
            · rw [if_neg q4]
              exact H0 (fun ⟨o, y, _⟩ => q4 y.2.2.2.2) m2 (rn c2)
          · rw [if_neg q3]
            exact H0 (fun ⟨o, y, _⟩ => q3 (h32.mpr y.2.2.2.1)) m2 (rn c2)
      · rw [if_neg q1]
        exact H0 (fun ⟨o, y, _⟩ => q1 y.2.1) m2 (rn c2)
    · rw [if_pos (by decide)]
      exact H0 (fun ⟨o, y, _⟩ => by have := y.1; omega) m2 (rn (f1.tr f2).of.cf)
  · refine sp_in_bits (d := d + 3) 8 (by decide) (hJ0.1.fr f1) at1 (by omega) (by omega) (fun w2 => by omega) (fun w2 m2 h2 f2 at2 hxe hlt => ?_)
    rw [if_pos (by decide)]
    exact H0 (fun ⟨o, y, _⟩ => by have := y.1; omega) m2 (rn (f1.tr f2).of.cf)
end YX
