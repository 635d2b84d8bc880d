/-! ===== whole zlib streams: the reference ===== -/
section YX
variable {d : Nat} {m m' m2 n n' n2 : w_M} {Q : Int → w_M → Prop} {I f1 f2 g : Int → Int} {A base N O x c M v l3 : Int} {o : List Int}
theorem y_df.mf (h : y_df n n') : y_mf n n' := fun i j q1 q2 => h i j (by omega) (by omega)
theorem y_rtf.mf (h : y_rtf n n') : y_mf n n' := h.df.mf
theorem r_infl_b (h : n 428 40 = 1) (hQ : Q 0 n) : xp_m_inflate_183 d n Q := by
  apply xr_m_inflate_183
  rw [if_neg (by omega)]
  exact hQ
theorem r_infl_89_b (h : n 428 40 = 1) (hQ : Q 0 n) : xp_m_inflate_89 d l3 n Q := by
  apply xr_m_inflate_89
  split
  · rw [if_neg (by omega)]
    exact r_infl_b h hQ
  · exact r_infl_b h hQ
theorem r_infl_end (hK : y_K n N I x o) (h1 : y_end I N x o → Q 1 n) (h0 : ¬ y_end I N x o → Q 0 n) : xp_m_inflate_183 (d + 1) n Q := by
  obtain ⟨⟨k37, N0, N1, kb⟩, k39, x0, x1, k40, k38, kl, ko, kr⟩ := hK
  apply xr_m_inflate_183
  rw [if_pos k40, k39, k37]
  have ed : Int.tdiv (w_32 (x + 7)) 8 = y_al x / 8 := by
    rw [w_32_id (by omega) (by omega), Int.tdiv_eq_ediv_of_nonneg (by omega)]
    unfold y_al
    omega
  rw [ed]
  have hp2 : 0 ≤ y_al x / 8 ∧ y_al x / 8 ≤ N := by
    unfold y_al
    omega
  unfold y_end at h1 h0
  obtain ⟨p, hp⟩ : ∃ p, p = y_al x / 8 := ⟨_, rfl⟩
  obtain ⟨K, hK⟩ : ∃ K : Nat, K = o.length := ⟨_, rfl⟩
  rw [← hp] at h1 h0 hp2 ⊢
  rw [← hK] at h1 h0 k38 kl ko
  rw [w_32_id (x := p + 4) (by omega) (by omega), w_32_id (x := p + 1) (by omega) (by omega), w_32_id (x := p + 2) (by omega) (by omega), w_32_id (x := p + 3) (by omega) (by omega)]
  by_cases z : p + 4 = N
  · rw [if_pos z]
    refine ⟨by omega, by omega, by omega, by omega, ?_⟩
    rw [k38]
    refine sp_m_adler (d := d) ⟨8200, s0_443⟩ (by omega) (by rw [w_ln_eq s0_443]; omega) (by rw [w_ln_eq s0_443]; decide) (fun i => o.getD i.toNat 0) (fun i q1 q2 => ?_) ?_
    · have := ko i.toNat (by omega)
      rw [show ((i.toNat : Nat) : Int) = i by omega] at this
      exact this
    · rw [show ((K : Int)).toNat = K by omega]
      obtain ⟨⟨r1, r2⟩, r3, r4⟩ := a_ad_r (fun i => o.getD i.toNat 0) K
      obtain ⟨a, ha⟩ : ∃ a, a = (a_ad (fun i => o.getD i.toNat 0) K).1 := ⟨_, rfl⟩
      obtain ⟨b, hb⟩ : ∃ b, b = (a_ad (fun i => o.getD i.toNat 0) K).2 := ⟨_, rfl⟩
      rw [← ha] at r1 r2 h1 h0 ⊢
      rw [← hb] at r3 r4 h1 h0 ⊢
      have b0 := kb p (by omega) (by omega)
      have b1 := kb (p + 1) (by omega) (by omega)
      have b2 := kb (p + 2) (by omega) (by omega)
      have b3 := kb (p + 3) (by omega) (by omega)
      rw [w_land_255, b0, b1, b2, b3, y_lor4 (by omega) (by omega) (by omega) (by omega)]
      by_cases y : I p * 16777216 + I (p + 1) * 65536 + I (p + 2) * 256 + I (p + 3) = b * 65536 + a
      · rw [if_pos y]
        exact h1 ⟨z, by omega, by omega, by omega, by omega⟩
      · rw [if_neg y]
        refine h0 (fun w => y ?_)
        obtain ⟨_, w1, w2, w3, w4⟩ := w
        omega
  · rw [if_neg z]
    exact h0 (fun y => z y.1)
theorem r_infl_89 : ∀ (k : Nat) (x : Int) (o : List Int) (n : w_M), 8 * N + 1 ≤ x + k → y_K n N I x o → y_by o →
    (∀ x' o', y_blk I (8 * N) k x o = (0, x', o') → y_end I N x' o' → y_by o' → ∀ n', y_mf n n' → n' 428 38 = o'.length → (∀ i : Nat, i < o'.length → n' 443 i = o'.getD i 0) → Q 1 n') →
    ((¬ ∃ x' o', y_blk I (8 * N) k x o = (0, x', o') ∧ y_end I N x' o') → ∀ n', y_mf n n' → Q 0 n') → xp_m_inflate_89 (d + 4) 0 n Q := by
  intro k
  induction k with
  | zero =>
    intro x o n hk hK _ _ _
    have := hK.2.2.2.1
    exact absurd hk (by omega)
  | succ k ih =>
    intro x o n hk hK hby H1 H0
    obtain ⟨j1, j2, j3, j4, j5, _, _, _, j9⟩ := id hK
    have hN := j1.2.1
    apply xr_m_inflate_89
    rw [if_pos rfl, if_pos j5]
    have e1' : x + ((1 : Nat) : Int) = x + 1 := rfl
    have p1 : ((2 ^ 1 : Nat) : Int) = 2 := rfl
    have p2 : ((2 ^ 2 : Nat) : Int) = 4 := rfl
    have nope : 8 * N < x + 3 → ¬ ∃ x' o', y_blk I (8 * N) (k + 1) x o = (0, x', o') ∧ y_end I N x' o' := fun q ⟨x2, o2, q1, q2⟩ => by
      rw [blk_0 q] at q1
      have : (1 : Int) = 0 := congrArg Prod.fst q1
      exact absurd this (by decide)
    refine r_bits (d := d + 3) 1 (by decide) j1 j9 j2 j3 j4 (fun w => ?_) (fun w => ?_)
    · rw [e1'] at w ⊢
      have f1 : y_rfr n (w_up n 428 39 (x + 1)) := fun i j q => by unfold w_up; rw [if_neg (by omega)]
      have K1 := hK.fr f1 w_up_eq (by omega) w (by rw [w_up_nb (by decide)]; exact j5)
      have rl := y_V_r I x 1
      have rw' := y_V_r I (x + 1) 2
      obtain ⟨lv, hlv⟩ : ∃ lv, lv = y_V I x 1 := ⟨_, rfl⟩
      rw [← hlv] at rl ⊢
      have body : xp_m_inflate_114 (d + 4) lv (w_up n 428 39 (x + 1)) Q := by
        apply xr_m_inflate_114
        refine r_bits (d := d + 3) 2 (by decide) K1.1 K1.2.2.2.2.2.2.2.2 w_up_eq (by omega) w (fun w2 => ?_) (fun w2 => ?_)
        · have e2' : x + 1 + ((2 : Nat) : Int) = x + 3 := by omega
          rw [e2'] at w2 ⊢
          rw [w_up_up]
          have f2 : y_rfr n (w_up n 428 39 (x + 3)) := fun i j q => by unfold w_up; rw [if_neg (by omega)]
          have K2 := hK.fr f2 w_up_eq (by omega) w2 (by rw [w_up_nb (by decide)]; exact j5)
          obtain ⟨n2, hn2⟩ : ∃ n2, n2 = w_up n 428 39 (x + 3) := ⟨_, rfl⟩
          rw [← hn2] at f2 K2 ⊢
          have c2 : y_mf n n2 := f2.of.mf
          have hM : ¬ 8 * N < x + 3 := by omega
          obtain ⟨wv, hwv⟩ : ∃ wv, wv = y_V I (x + 1) 2 := ⟨_, rfl⟩
          rw [← hwv] at rw' ⊢
          have next : ∀ (n3 : w_M) (x' : Int) (o' : List Int), y_bk I (8 * N) wv (x + 3) o = (0, x', o') → y_by o' → y_mf n n3 → y_K n3 N I x' o' → xp_m_inflate_89 (d + 4) lv n3 Q := by
            intro n3 x' o' e by' c3 K3
            have hne : (y_bk I (8 * N) (y_V I (x + 1) 2) (x + 3) o).1 ≠ 1 := by
              rw [← hwv, e]
              exact (by decide : (0 : Int) ≠ 1)
            have hle : x + 3 ≤ x' := y_bk_le _ e (by decide : (0 : Int) ≠ 1)
            have e' : y_bk I (8 * N) (y_V I (x + 1) 2) (x + 3) o = (0, x', o') := by rw [← hwv]; exact e
            by_cases z : lv = 1
            · rw [z]
              have eb : y_blk I (8 * N) (k + 1) x o = (0, x', o') := (blk_l hM hne (by rw [← hlv]; exact z)).trans e'
              apply xr_m_inflate_89
              rw [if_neg (by decide)]
              refine r_infl_end (d := d + 3) K3 (fun y => H1 x' o' eb y by' n3 c3 K3.2.2.2.2.2.1 K3.2.2.2.2.2.2.2.1) (fun y => H0 (fun ⟨x2, o2, q1, q2⟩ => ?_) n3 c3)
              rw [eb] at q1
              have q3 := Prod.mk.inj (Prod.mk.inj q1).2
              rw [← q3.1, ← q3.2] at q2
              exact y q2
            · have z0 : lv = 0 := by omega
              rw [z0]
              have eb : y_blk I (8 * N) (k + 1) x o = y_blk I (8 * N) k x' o' := by
                rw [blk_s hM hne (by rw [← hlv]; exact z), e']
              refine ih x' o' n3 (by omega) K3 by' (fun x2 o2 q1 q2 q3 m4 c4 a b => H1 x2 o2 (eb.trans q1) q2 q3 m4 (c3.tr c4) a b) (fun y m4 c4 => H0 (fun ⟨x2, o2, q1, q2⟩ => y ⟨x2, o2, eb.symm.trans q1, q2⟩) m4 (c3.tr c4))
          have fail : ∀ n3, (y_bk I (8 * N) wv (x + 3) o).1 = 1 → y_mf n n3 → n3 428 40 = 1 → xp_m_inflate_89 (d + 4) lv n3 Q := by
            intro n3 e c3 b3
            refine r_infl_89_b b3 (H0 (fun ⟨x2, o2, q1, q2⟩ => ?_) n3 c3)
            rw [blk_1 hM (by rw [← hwv]; exact e)] at q1
            have : (1 : Int) = 0 := congrArg Prod.fst q1
            exact absurd this (by decide)
          by_cases z0 : wv = 0
          · rw [if_pos z0]
            refine r_stored (d := d + 1) K2 hby (fun x' o' e by' n3 f3 K3 => ?_) (fun e n3 f3 b3 => ?_)
            · exact next n3 x' o' (by rw [z0, bk_0]; exact e) by' (c2.tr f3.mf) K3
            · exact fail n3 (by rw [z0, bk_0]; exact e) (c2.tr f3.mf) b3
          · rw [if_neg z0]
            by_cases z1 : wv = 1
            · rw [if_pos z1]
              refine r_fixed (d := d + 1) (fun n3 t3 tb3 => ?_)
              apply xr_m_codes
              refine r_codes_0 (d := d) (n1 := 288) (k2 := 30) (f1 := y_f1) (f2 := y_f2) (fun i _ => y_f1_r i) (by decide) (fun i _ => ⟨by show (0 : Int) ≤ 5; decide, by show (5 : Int) ≤ 15; decide⟩) (by decide) 8001 (x + 3) o n3 (by omega) tb3 (K2.tf t3) hby (fun x' o' e by' n4 f4 K4 => ?_) (fun e n4 f4 b4 => ?_)
              · exact next n4 x' o' (by rw [z1, bk_1]; exact e) by' (c2.tr (t3.mf.tr f4.mf)) K4
              · exact fail n4 (by rw [z1, bk_1]; exact e) (c2.tr (t3.mf.tr f4.mf)) b4
            · rw [if_neg z1]
              by_cases z2 : wv = 2
              · rw [if_pos z2]
                refine r_dynamic (d := d + 1) K2 (fun hd n3 t3 K3 tb3 rg => ?_) (fun hd n3 t3 b3 => ?_)
                · have v5 := y_V_r I (x + 3) 5
                  have v52 := y_V_r I (x + 3 + 5) 5
                  have rL : 257 ≤ y_lits I (x + 3) := by unfold y_lits; omega
                  have rD : 1 ≤ y_dsts I (x + 3) := by unfold y_dsts; omega
                  have hl := hd.1.2.1
                  have hl2 := hd.1.2.2.1
                  rw [if_pos K3.2.2.2.2.1]
                  apply xr_m_codes
                  refine r_codes_0 (d := d) (n1 := (y_lits I (x + 3)).toNat) (k2 := (y_dsts I (x + 3)).toNat) (f1 := (y_rsx I (8 * N) (x + 3)).2.2) (f2 := fun i => (y_rsx I (8 * N) (x + 3)).2.2 ((y_lits I (x + 3)).toNat + i)) (fun i hi => rg i (by omega) (by omega)) (by omega) (fun i hi => rg _ (by omega) (by omega)) (by omega) 8001 (y_rsx I (8 * N) (x + 3)).2.1 o n3 (by omega) tb3 K3 hby (fun x' o' e by' n4 f4 K4 => ?_) (fun e n4 f4 b4 => ?_)
                  · exact next n4 x' o' (by rw [z2, bk_2 hd]; exact e) by' (c2.tr (t3.mf.tr f4.mf)) K4
                  · exact fail n4 (by rw [z2, bk_2 hd]; exact e) (c2.tr (t3.mf.tr f4.mf)) b4
                · rw [if_neg (by omega)]
                  exact fail n3 (by rw [z2, bk_2n hd]) (c2.tr t3.mf) b3
              · rw [if_neg z2]
                refine fail _ ?_ (fun i j q1 q2 => by unfold w_up; rw [if_neg (by omega)]; exact c2 i j q1 q2) w_up_eq
                have e : y_bk I (8 * N) wv (x + 3) o = (1, x + 3, o) := (if_neg z0).trans ((if_neg z1).trans (if_neg z2))
                rw [e]
        · rw [if_pos rfl]
          have f2 : y_rfr n (w_up (w_up (w_up n 428 39 (x + 1)) 428 39 (8 * N)) 428 40 1) := fun i j q => by unfold w_up; rw [if_neg (by omega), if_neg (by omega), if_neg (by omega)]
          refine r_stored_b (d := d + 1) (N := N) (I := I) (j1.fr f2) (fun j => by rw [f2 _ _ (by omega)]; exact j9 j) (by rw [w_up_nb (by decide), w_up_eq]) (fun n3 f3 b3 => ?_)
          exact r_infl_89_b b3 (H0 (nope (by omega)) n3 (f2.of.mf.tr f3.mf))
      by_cases z : lv = 1
      · rw [if_pos z]
        rw [z] at body
        exact body
      · rw [if_neg z]
        rw [show lv = 0 by omega] at body
        exact body
    · rw [if_neg (by decide)]
      apply xr_m_inflate_114
      have f1 : y_rfr n (w_up (w_up n 428 39 (8 * N)) 428 40 1) := fun i j q => by unfold w_up; rw [if_neg (by omega), if_neg (by omega)]
      refine r_bits (d := d + 3) (x := 8 * N) 2 (by decide) (j1.fr f1) (fun j => by rw [f1 _ _ (by omega)]; exact j9 j) (by rw [w_up_nb (by decide), w_up_eq]) (by omega) (Int.le_refl _) (fun w3 => by omega) (fun w3 => ?_)
      rw [if_pos rfl]
      have f2 : y_rfr n (w_up (w_up (w_up (w_up n 428 39 (8 * N)) 428 40 1) 428 39 (8 * N)) 428 40 1) := fun i j q => by unfold w_up; rw [if_neg (by omega), if_neg (by omega), if_neg (by omega), if_neg (by omega)]
      refine r_stored_b (d := d + 1) (N := N) (I := I) (j1.fr f2) (fun j => by rw [f2 _ _ (by omega)]; exact j9 j) (by rw [w_up_nb (by decide), w_up_eq]) (fun n3 f3 b3 => ?_)
      exact r_infl_89_b b3 (H0 (nope (by omega)) n3 (f2.of.mf.tr f3.mf))
theorem sp_m_inflate (hin : y_rin n N I) (hr : ∀ j, -128 ≤ n 442 j ∧ n 442 j < 128) (H1 : ∀ o, y_zl I N o → y_by o → ∀ n', y_mf n n' → n' 428 38 = o.length → (∀ i : Nat, i < o.length → n' 443 i = o.getD i 0) → Q 1 n') (H0 : (¬ ∃ o, y_zl I N o) → ∀ n', y_mf n n' → Q 0 n') : xc_m_inflate (d + 5) n Q := by
  apply xr_m_inflate
  obtain ⟨k37, N0, N1, kb⟩ := id hin
  have c0 : y_mf n (w_up (w_up n 428 38 0) 428 40 0) := fun i j q1 q2 => by unfold w_up; rw [if_neg (by omega), if_neg (by omega)]
  rw [k37, c0 442 0 (by omega) (by omega), c0 442 1 (by omega) (by omega)]
  by_cases q0 : N < 2
  · rw [if_pos q0]
    exact H0 (fun ⟨o, y, _⟩ => by have := y.1; omega) _ c0
  · have e0 := kb 0 (by decide) (by omega)
    have e1 := kb 1 (by decide) (by omega)
    rw [if_neg q0, e0, e1, w_32_id (x := 256 * I 0) (by omega) (by omega), w_32_id (x := 256 * I 0 + I 1) (by omega) (by omega), Int.tmod_eq_emod_of_nonneg (by omega)]
    have h32 := y_and32 (v := I 1) (by omega) (by omega)
    by_cases q1 : I 0 % 16 = 8
    · rw [if_pos q1]
      by_cases q2 : 7 < I 0 / 16
      · rw [if_pos q2]
        exact H0 (fun ⟨o, y, _⟩ => by have := y.2.2.1; omega) _ c0
      · rw [if_neg q2]
        by_cases q3 : w_and (I 1) 32 = 0
        · rw [if_pos q3]
          by_cases q4 : (256 * I 0 + I 1) % 31 = 0
          · rw [if_pos q4]
            have hb : y_beg I N := ⟨by omega, q1, by omega, h32.mp q3, by omega⟩
            have c1 : y_mf n (w_up (w_up (w_up n 428 38 0) 428 40 0) 428 39 16) := fun i j q1 q2 => by unfold w_up; rw [if_neg (by omega), if_neg (by omega), if_neg (by omega)]
            have K0 : y_K (w_up (w_up (w_up n 428 38 0) 428 40 0) 428 39 16) N I 16 [] :=
              ⟨⟨by rw [c1 _ _ (by omega) (by omega)]; exact k37, N0, N1, fun i q1 q2 => by rw [c1 _ _ (by omega) (by omega)]; exact kb i q1 q2⟩, w_up_eq, by decide, by omega, by rw [w_up_nb (by decide), w_up_eq], by rw [w_up_nb (by decide), w_up_nb (by decide), w_up_eq]; rfl, by decide, fun i hi => absurd hi (by simp), fun j => by rw [c1 _ _ (by omega) (by omega)]; exact hr j⟩
            refine r_infl_89 (d := d) (8 * N + 1).toNat 16 [] _ (by omega) K0 (fun i hi => absurd hi (by simp)) (fun x' o' e y by' m3 c3 a b => H1 o' ⟨hb, x', e, y⟩ by' m3 (c1.tr c3) a b) (fun y m3 c3 => H0 (fun ⟨o, _, x', e, y2⟩ => y ⟨x', o, e, y2⟩) m3 (c1.tr c3))
          · rw [if_neg q4]
            exact H0 (fun ⟨o, y, _⟩ => q4 (by have := y.2.2.2.2; omega)) _ c0
        · rw [if_neg q3]
          exact H0 (fun ⟨o, y, _⟩ => q3 (h32.mpr y.2.2.2.1)) _ c0
    · rw [if_neg q1]
      exact H0 (fun ⟨o, y, _⟩ => q1 y.2.1) _ c0
/-- the bytes are told by the input alone -/
theorem y_zl_one {o o' : List Int} (h : y_zl I N o) (h' : y_zl I N o') : o = o' := by
  obtain ⟨_, x, e, _⟩ := h
  obtain ⟨_, x', e', _⟩ := h'
  rw [e] at e'
  exact (Prod.mk.inj (Prod.mk.inj e').2).2
end YX
