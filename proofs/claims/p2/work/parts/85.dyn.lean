/-! ===== dynamic codes: both sides ===== -/
/-- where a length of the codes' codes is told -/
def y_iv (i : Int) : Int := ([3, 17, 15, 13, 11, 9, 7, 5, 4, 6, 8, 10, 12, 14, 16, 18, 0, 1, 2] : List Int).getD i.toNat 0
def y_f0 (I : Int → Int) (x many : Int) : Int → Int := fun i => if y_iv i < many then y_V I (x + 3 * y_iv i) 3 else 0
def y_nb (v : Int) : Nat := if v = 16 then 2 else if v = 17 then 3 else 7
def y_ad (v : Int) : Int := if v = 18 then 11 else 3
def y_fi (g : Int → Int) (a r v : Int) : Int → Int := fun i => if a ≤ i ∧ i < a + r then v else g i
/-- the lengths of all codes: 1 is wrong; the bit behind; the lengths -/
def y_rs (I : Int → Int) (M : Int) (S0 : Int → Int × Int × Int) (all : Int) : Nat → Int → Int → (Int → Int) → Int × Int × (Int → Int)
  | 0, _, x, g => (0, x, g)
  | k + 1, at', x, g =>
    if at' < all then
      if (S0 x).1 = 1 then (1, x, g)
      else if (S0 x).2.1 < 16 then y_rs I M S0 all k (at' + 1) (S0 x).2.2 (y_fi g at' 1 (S0 x).2.1)
      else if (S0 x).2.1 = 16 ∧ at' = 0 then (1, x, g)
      else if M < (S0 x).2.2 + y_nb (S0 x).2.1 then (1, x, g)
      else if all < at' + (y_ad (S0 x).2.1 + y_V I (S0 x).2.2 (y_nb (S0 x).2.1)) then (1, x, g)
      else y_rs I M S0 all k (at' + (y_ad (S0 x).2.1 + y_V I (S0 x).2.2 (y_nb (S0 x).2.1))) ((S0 x).2.2 + y_nb (S0 x).2.1) (y_fi g at' (y_ad (S0 x).2.1 + y_V I (S0 x).2.2 (y_nb (S0 x).2.1)) (if (S0 x).2.1 = 16 then g (at' - 1) else 0))
    else (0, x, g)
/-- a dynamic block's head: wrong; how many of both, the bit behind, the lengths -/
def y_hd (I : Int → Int) (M x : Int) : Int × Int × Int × Int × (Int → Int) :=
  if M < x + 14 ∨ 286 < y_V I x 5 + 257 ∨ 30 < y_V I (x + 5) 5 + 1 ∨ M < x + 14 + 3 * (y_V I (x + 10) 4 + 4) ∨ y_lf (y_c (y_f0 I (x + 14) (y_V I (x + 10) 4 + 4)) 19) 15 1 1 ≠ 0 then (1, 0, 0, x, fun _ => 0)
  else if (y_rs I M (y_S (y_f0 I (x + 14) (y_V I (x + 10) 4 + 4)) 19 I M) (y_V I x 5 + 257 + (y_V I (x + 5) 5 + 1)) (y_V I x 5 + 257 + (y_V I (x + 5) 5 + 1)).toNat 0 (x + 14 + 3 * (y_V I (x + 10) 4 + 4)) (fun _ => 0)).1 = 1 then (1, 0, 0, x, fun _ => 0)
  else (0, y_V I x 5 + 257, y_V I (x + 5) 5 + 1, (y_rs I M (y_S (y_f0 I (x + 14) (y_V I (x + 10) 4 + 4)) 19 I M) (y_V I x 5 + 257 + (y_V I (x + 5) 5 + 1)) (y_V I x 5 + 257 + (y_V I (x + 5) 5 + 1)).toNat 0 (x + 14 + 3 * (y_V I (x + 10) 4 + 4)) (fun _ => 0)).2.1, (y_rs I M (y_S (y_f0 I (x + 14) (y_V I (x + 10) 4 + 4)) 19 I M) (y_V I x 5 + 257 + (y_V I (x + 5) 5 + 1)) (y_V I x 5 + 257 + (y_V I (x + 5) 5 + 1)).toNat 0 (x + 14 + 3 * (y_V I (x + 10) 4 + 4)) (fun _ => 0)).2.2)
/-- whether the lengths g make codes -/
def y_ok (g : Int → Int) (n1 n2 : Nat) : Prop := g 256 ≠ 0 ∧ y_lf (y_c g n1) 15 1 1 = 0 ∧ (y_lf (y_c (fun i => g (n1 + i)) n2) 15 1 1 = 0 ∨ (0 < y_lf (y_c (fun i => g (n1 + i)) n2) 15 1 1 ∧ (y_c (fun i => g (n1 + i)) n2 0 = n2 ∨ (y_c (fun i => g (n1 + i)) n2 0 = n2 - 1 ∧ y_c (fun i => g (n1 + i)) n2 1 = 1))))
theorem y_ord : ∀ k : Fin 19, y_iv (w_ORDER.getD k.val 0) = k.val ∧ 0 ≤ w_ORDER.getD k.val 0 ∧ w_ORDER.getD k.val 0 < 19 ∧ f_m_orderOf (fun _ _ => 0) k.val = w_ORDER.getD k.val 0 ∧ 0 ≤ y_iv k.val ∧ y_iv k.val < 19 ∧ w_ORDER.getD (y_iv k.val).toNat 0 = k.val := by decide +kernel
theorem y_od {m : w_M} {k : Int} (h : 0 ≤ k ∧ k < 19) : y_iv (w_ORDER.getD k.toNat 0) = k ∧ 0 ≤ w_ORDER.getD k.toNat 0 ∧ w_ORDER.getD k.toNat 0 < 19 ∧ f_m_orderOf m k = w_ORDER.getD k.toNat 0 ∧ 0 ≤ y_iv k ∧ y_iv k < 19 ∧ w_ORDER.getD (y_iv k).toNat 0 = k := by
  have := y_ord ⟨k.toNat, by omega⟩
  have e : ((k.toNat : Nat) : Int) = k := by omega
  simp only [e] at this
  exact this
theorem y_f0_r {I : Int → Int} {x many : Int} (i : Int) : 0 ≤ y_f0 I x many i ∧ y_f0 I x many i ≤ 15 := by
  unfold y_f0
  split
  · have := y_V_r I (x + 3 * y_iv i) 3
    have p : ((2 ^ 3 : Nat) : Int) = 8 := rfl
    omega
  · decide
section YY
variable {d : Nat} {m m' m2 n n' n2 : w_M} {Q : Int → w_M → Prop} {I f1 f2 g : Int → Int} {A base N O x c M v all at' : Int} {o : List Int} {n1 k2 k : Nat} {S0 : Int → Int × Int × Int}
theorem y_cn.fr' {c : Int} {f : Int → Int} {n : Nat} (h : y_cn m c f n) (he : ∀ j : Int, m' c j = m c j) : y_cn m' c f n := fun l q1 q2 => by rw [he]; exact h l q1 q2
theorem y_sy.fr' {s : Int} {f : Int → Int} {n j : Nat} (h : y_sy m s f n j) (he : ∀ j : Int, m' s j = m s j) : y_sy m' s f n j := fun i q1 q2 => by rw [he]; exact h i q1 q2
theorem y_J.up1 (h : y_J m A base N I O x o) {j u : Int} (hj : j = 11 ∨ j = 12) : y_J (w_up m 379 j u) A base N I O x o := by
  obtain ⟨a1, ⟨h, b1, b2, b3⟩, a3, a4, a5, a6, a7, a8⟩ := h
  have hO := y_oO a4
  obtain ⟨i1, i2, i3, i4, i5, i6, i7, i8, i9, j1, j2⟩ := a1
  obtain ⟨c1, c2, c3, c4, c5⟩ := b1
  have e : ∀ p q : Int, ¬ (p = 379 ∧ q = j) → w_up m 379 j u p q = m p q := fun p q w => by unfold w_up; rw [if_neg w]
  exact ⟨⟨i1, i2, i3, i4, i5, i6, i7, i8, by rw [e _ _ (by omega)]; exact i9, by rw [e _ _ (by omega)]; exact j1, fun i q1 q2 => by rw [e _ _ (by omega)]; exact j2 i q1 q2⟩, ⟨h, ⟨by rw [e _ _ (by omega)]; exact c1, c2, by rw [e _ _ (by omega)]; exact c3, by rw [e _ _ (by omega)]; exact c4, c5⟩, b2, b3⟩, by rw [e _ _ (by omega)]; exact a3, a4, a5, by rw [e _ _ (by omega)]; exact a6, a7, fun i hi => by rw [e _ _ (by omega)]; exact a8 i hi⟩
/-- all lengths: the class -/
theorem sp_in_rs {f0 : Int → Int} (hf0 : ∀ i : Nat, i < 19 → 0 ≤ f0 i ∧ f0 i ≤ 15) (hall : 0 ≤ all ∧ all ≤ 316) : ∀ (k : Nat) (at' x : Int) (g : Int → Int) (m : w_M), all ≤ at' + k → 0 ≤ at' → at' ≤ all → y_J m A base N I O x o → y_cn m 381 f0 19 → y_sy m 382 f0 19 19 → (∀ i, 0 ≤ i → i < at' → m 380 i = g i ∧ 0 ≤ g i ∧ g i ≤ 15) →
    (∀ x' g', y_rs I (8 * N) (y_S f0 19 I (8 * N)) all k at' x g = (0, x', g') → x ≤ x' → ∀ m', (∀ i j : Int, ¬ (i = 379 ∧ (j = 7 ∨ j = 13 ∨ j = 14)) → i ≠ 380 → m' i j = m i j) → y_J m' A base N I O x' o → (∀ i, 0 ≤ i → i < all → m' 380 i = g' i ∧ 0 ≤ g' i ∧ g' i ≤ 15) → Q 1 m') →
    ((y_rs I (8 * N) (y_S f0 19 I (8 * N)) all k at' x g).1 = 1 → ∀ m', (∀ i j : Int, ¬ (i = 379 ∧ (j = 7 ∨ j = 13 ∨ j = 14)) → i ≠ 380 → m' i j = m i j) → Q 0 m') → xp_in_readSizes_12 (d + 2) all at' m Q := by
  intro k
  induction k with
  | zero =>
    intro at' x g m hk a0 a1 hJ hc hs hg h1 h0
    apply xr_in_readSizes_12
    rw [if_neg (by omega)]
    exact h1 x g rfl (Int.le_refl _) m (fun _ _ _ _ => rfl) hJ (fun i q1 q2 => hg i q1 (by omega))
  | succ k ih =>
    intro at' x g m hk a0 a1 hJ hc hs hg h1 h0
    have er : y_rs I (8 * N) (y_S f0 19 I (8 * N)) all (k + 1) at' x g = (if at' < all then
      if (y_S f0 19 I (8 * N) x).1 = 1 then (1, x, g)
      else if (y_S f0 19 I (8 * N) x).2.1 < 16 then y_rs I (8 * N) (y_S f0 19 I (8 * N)) all k (at' + 1) (y_S f0 19 I (8 * N) x).2.2 (y_fi g at' 1 (y_S f0 19 I (8 * N) x).2.1)
      else if (y_S f0 19 I (8 * N) x).2.1 = 16 ∧ at' = 0 then (1, x, g)
      else if 8 * N < (y_S f0 19 I (8 * N) x).2.2 + y_nb (y_S f0 19 I (8 * N) x).2.1 then (1, x, g)
      else if all < at' + (y_ad (y_S f0 19 I (8 * N) x).2.1 + y_V I (y_S f0 19 I (8 * N) x).2.2 (y_nb (y_S f0 19 I (8 * N) x).2.1)) then (1, x, g)
      else y_rs I (8 * N) (y_S f0 19 I (8 * N)) all k (at' + (y_ad (y_S f0 19 I (8 * N) x).2.1 + y_V I (y_S f0 19 I (8 * N) x).2.2 (y_nb (y_S f0 19 I (8 * N) x).2.1))) ((y_S f0 19 I (8 * N) x).2.2 + y_nb (y_S f0 19 I (8 * N) x).2.1) (y_fi g at' (y_ad (y_S f0 19 I (8 * N) x).2.1 + y_V I (y_S f0 19 I (8 * N) x).2.2 (y_nb (y_S f0 19 I (8 * N) x).2.1)) (if (y_S f0 19 I (8 * N) x).2.1 = 16 then g (at' - 1) else 0))
      else (0, x, g)) := rfl
    rw [er] at h1 h0
    apply xr_in_readSizes_12
    by_cases za : at' < all
    · rw [if_pos za] at h1 h0
      rw [if_pos za, if_pos (by omega)]
      obtain ⟨j1, ⟨h, j2, j3, j4⟩, jr⟩ := id hJ
      refine sp_in_symbol (d := d + 1) (k := 19) (Or.inl ⟨rfl, rfl, by decide⟩) hf0 hc hs j1 j2 j3 j4 (fun v x1 y1 v0 v1 vx m1 h' f1' at1 h7 hx1 => ?_) (fun v x1 y1 m1 f1' z0 z1 => ?_)
      · have eS : y_S f0 19 I (8 * N) x = (0, v, x1) := y1
        rw [eS, if_neg (by show ¬ (0 : Int) = 1; decide)] at h1 h0
        simp only at h1 h0
        have J1 := hJ.fr f1' at1 h7 hx1
        have e380 : ∀ j : Int, m1 380 j = m 380 j := fun j => f1' _ _ (by omega)
        have hc1 : y_cn m1 381 f0 19 := hc.fr' (fun j => f1' _ _ (by omega))
        have hs1 : y_sy m1 382 f0 19 19 := hs.fr' (fun j => f1' _ _ (by omega))
        -- the lengths are filled
        have fill : ∀ (r sv x2 : Int) (m2 : w_M), 0 ≤ sv → sv ≤ 15 → 0 < r → at' + r ≤ all → x ≤ x2 → y_J m2 A base N I O x2 o → (∀ i j : Int, ¬ (i = 379 ∧ (j = 7 ∨ j = 13 ∨ j = 14)) → m2 i j = m i j) →
            (∀ x' g', y_rs I (8 * N) (y_S f0 19 I (8 * N)) all k (at' + r) x2 (y_fi g at' r sv) = (0, x', g') → x ≤ x' → ∀ m', (∀ i j : Int, ¬ (i = 379 ∧ (j = 7 ∨ j = 13 ∨ j = 14)) → i ≠ 380 → m' i j = m i j) → y_J m' A base N I O x' o → (∀ i, 0 ≤ i → i < all → m' 380 i = g' i ∧ 0 ≤ g' i ∧ g' i ≤ 15) → Q 1 m') →
            ((y_rs I (8 * N) (y_S f0 19 I (8 * N)) all k (at' + r) x2 (y_fi g at' r sv)).1 = 1 → ∀ m', (∀ i j : Int, ¬ (i = 379 ∧ (j = 7 ∨ j = 13 ∨ j = 14)) → i ≠ 380 → m' i j = m i j) → Q 0 m') →
            xp_in_readSizes_159 (d + 2) all at' r sv 0 m2 Q := by
          intro r sv x2 m2 s0 s1 r0 r1 xx J2 f2' g1 g0
          have loop : ∀ (c : Nat) (i : Int) (m3 : w_M), i + c = r → 0 ≤ i → (∀ p j : Int, ¬ (p = 379 ∧ (j = 7 ∨ j = 13 ∨ j = 14)) → p ≠ 380 → m3 p j = m p j) → y_J m3 A base N I O x2 o → (∀ p, 0 ≤ p → p < at' + i → m3 380 p = y_fi g at' r sv p ∧ 0 ≤ y_fi g at' r sv p ∧ y_fi g at' r sv p ≤ 15) → xp_in_readSizes_159 (d + 2) all (at' + i) r sv i m3 Q := by
            intro c
            induction c with
            | zero =>
              intro i m3 hi i0 f3 J3 hg3
              apply xr_in_readSizes_159
              rw [if_neg (by omega)]
              have : i = r := by omega
              subst this
              exact ih (at' + i) x2 _ m3 (by omega) (by omega) (by omega) J3 (hc.fr' (fun j => f3 _ _ (by omega) (by decide))) (hs.fr' (fun j => f3 _ _ (by omega) (by decide))) hg3 (fun x' g' w1 w2 m4 f4 => g1 x' g' w1 (by omega) m4 (fun p j q q2 => (f4 p j q q2).trans (f3 p j q q2))) (fun w1 m4 f4 => g0 w1 m4 (fun p j q q2 => (f4 p j q q2).trans (f3 p j q q2)))
            | succ c ihc =>
              intro i m3 hi i0 f3 J3 hg3
              apply xr_in_readSizes_159
              rw [if_pos (by omega), if_pos (by omega), w_32_id (x := at' + i + 1) (by omega) (by omega), w_32_id (x := i + 1) (by omega) (by omega), show at' + i + 1 = at' + (i + 1) by omega]
              refine ⟨by omega, ihc (i + 1) _ (by omega) (by omega) (fun p j q q2 => ?_) (J3.tf (fun p j q => by rw [w_up_ne (by omega)])) (fun p p0 p1 => ?_)⟩
              · rw [w_up_ne q2]; exact f3 p j q q2
              · by_cases w : p = at' + i
                · rw [w, w_up_eq]
                  have : y_fi g at' r sv (at' + i) = sv := by unfold y_fi; rw [if_pos ⟨by omega, by omega⟩]
                  rw [this]
                  exact ⟨rfl, s0, s1⟩
                · rw [w_up_nb w]
                  exact hg3 p p0 (by omega)
          have := loop r.toNat 0 m2 (by omega) (by decide) (fun p j q _ => f2' p j q) J2 (fun p p0 p1 => ?_)
          · rw [Int.add_zero] at this
            exact this
          · have e : y_fi g at' r sv p = g p := by unfold y_fi; rw [if_neg (by omega)]
            rw [e, f2' _ _ (by omega)]
            exact hg p p0 (by omega)
        rw [if_neg (by omega)]
        by_cases w16 : v = 16
        · rw [if_pos w16]
          rw [if_neg (by omega)] at h1 h0
          by_cases wa : at' = 0
          · rw [if_pos wa]
            rw [if_pos ⟨w16, wa⟩] at h0
            exact h0 rfl m1 (fun i j q _ => f1' i j (by omega))
          · rw [if_neg (fun y => wa y.2)] at h1 h0
            rw [if_neg wa, w_32_id (x := at' - 1) (by omega) (by omega)]
            refine ⟨by omega, ?_⟩
            have enb : y_nb v = 2 := by unfold y_nb; rw [if_pos w16]
            have ead : y_ad v = 3 := by unfold y_ad; rw [if_neg (by omega)]
            rw [enb, ead, if_pos w16] at h1 h0
            obtain ⟨hg1, hg2, hg3⟩ := hg (at' - 1) (by omega) (by omega)
            refine sp_in_bits (d := d + 1) 2 (by decide) J1.1 at1 h7 hx1 (fun w m2 h2 f2' at2 h27 hx2 => ?_) (fun w m2 h2 f2' at2 hxe hlt => ?_)
            · have hV := y_V_r I x1 2
              have p2 : ((2 ^ 2 : Nat) : Int) = 4 := rfl
              rw [if_neg (by omega)] at h1 h0
              have J2 := J1.fr f2' at2 h27 hx2
              apply xr_in_readSizes_127
              rw [w_32_id (x := 3 + y_V I x1 2) (by omega) (by omega), if_neg (by omega), if_neg (by omega), w_32_id (x := at' + (3 + y_V I x1 2)) (by omega) (by omega)]
              have e12 : ∀ i j : Int, ¬ (i = 379 ∧ (j = 7 ∨ j = 13 ∨ j = 14)) → m2 i j = m i j := fun i j q => (f2' i j q).trans (f1' i j q)
              by_cases wl : all < at' + (3 + y_V I x1 2)
              · rw [if_pos wl]
                rw [if_pos wl] at h0
                exact h0 rfl m2 (fun i j q _ => e12 i j q)
              · rw [if_neg wl]
                rw [if_neg wl] at h1 h0
                rw [e380, hg1]
                exact fill _ _ _ m2 hg2 hg3 (by omega) (by omega) (by omega) J2 e12 h1 h0
            · rw [if_pos (by omega)] at h0
              apply xr_in_readSizes_127
              rw [w_32_id (x := 3 + -1) (by decide) (by decide), if_pos (by decide)]
              exact h0 rfl m2 (fun i j q _ => (f2' i j q).trans (f1' i j q))
        · rw [if_neg w16]
          by_cases w17 : v = 17
          · rw [if_pos w17, if_pos w17]
            rw [if_neg (by omega), if_neg (fun y => w16 y.1)] at h1 h0
            have enb : y_nb v = 3 := by unfold y_nb; rw [if_neg w16, if_pos w17]
            have ead : y_ad v = 3 := by unfold y_ad; rw [if_neg (by omega)]
            rw [enb, ead, if_neg w16] at h1 h0
            refine sp_in_bits (d := d + 1) 3 (by decide) J1.1 at1 h7 hx1 (fun w m2 h2 f2' at2 h27 hx2 => ?_) (fun w m2 h2 f2' at2 hxe hlt => ?_)
            · have hV := y_V_r I x1 3
              have p2 : ((2 ^ 3 : Nat) : Int) = 8 := rfl
              rw [if_neg (by omega)] at h1 h0
              have J2 := J1.fr f2' at2 h27 hx2
              apply xr_in_readSizes_127
              rw [w_32_id (x := 3 + y_V I x1 3) (by omega) (by omega), if_neg (by omega)]
              have e12 : ∀ i j : Int, ¬ (i = 379 ∧ (j = 7 ∨ j = 13 ∨ j = 14)) → m2 i j = m i j := fun i j q => (f2' i j q).trans (f1' i j q)
              have go : (if all < w_32 (at' + (3 + y_V I x1 3)) then Q 0 m2 else xp_in_readSizes_159 (d + 2) all at' (3 + y_V I x1 3) 0 0 m2 Q) := by
                rw [w_32_id (x := at' + (3 + y_V I x1 3)) (by omega) (by omega)]
                by_cases wl : all < at' + (3 + y_V I x1 3)
                · rw [if_pos wl]
                  rw [if_pos wl] at h0
                  exact h0 rfl m2 (fun i j q _ => e12 i j q)
                · rw [if_neg wl]
                  rw [if_neg wl] at h1 h0
                  exact fill _ _ _ m2 (by decide) (by decide) (by omega) (by omega) (by omega) J2 e12 h1 h0
              by_cases w10 : 3 + y_V I x1 3 = 10
              · rw [if_pos w10, if_neg (by omega)]
                exact go
              · rw [if_neg w10]
                exact go
            · rw [if_pos (by omega)] at h0
              apply xr_in_readSizes_127
              rw [w_32_id (x := 3 + -1) (by decide) (by decide), if_pos (by decide)]
              exact h0 rfl m2 (fun i j q _ => (f2' i j q).trans (f1' i j q))
          · rw [if_neg w17]
            by_cases w18 : v = 18
            · rw [if_pos w18, if_neg w17]
              rw [if_neg (by omega), if_neg (fun y => w16 y.1)] at h1 h0
              have enb : y_nb v = 7 := by unfold y_nb; rw [if_neg w16, if_neg w17]
              have ead : y_ad v = 11 := by unfold y_ad; rw [if_pos w18]
              rw [enb, ead, if_neg w16] at h1 h0
              refine sp_in_bits (d := d + 1) 7 (by decide) J1.1 at1 h7 hx1 (fun w m2 h2 f2' at2 h27 hx2 => ?_) (fun w m2 h2 f2' at2 hxe hlt => ?_)
              · have hV := y_V_r I x1 7
                have p2 : ((2 ^ 7 : Nat) : Int) = 128 := rfl
                rw [if_neg (by omega)] at h1 h0
                have J2 := J1.fr f2' at2 h27 hx2
                apply xr_in_readSizes_127
                rw [w_32_id (x := 11 + y_V I x1 7) (by omega) (by omega), if_neg (by omega), if_neg (by omega), w_32_id (x := at' + (11 + y_V I x1 7)) (by omega) (by omega)]
                have e12 : ∀ i j : Int, ¬ (i = 379 ∧ (j = 7 ∨ j = 13 ∨ j = 14)) → m2 i j = m i j := fun i j q => (f2' i j q).trans (f1' i j q)
                by_cases wl : all < at' + (11 + y_V I x1 7)
                · rw [if_pos wl]
                  rw [if_pos wl] at h0
                  exact h0 rfl m2 (fun i j q _ => e12 i j q)
                · rw [if_neg wl]
                  rw [if_neg wl] at h1 h0
                  exact fill _ _ _ m2 (by decide) (by decide) (by omega) (by omega) (by omega) J2 e12 h1 h0
              · rw [if_pos (by omega)] at h0
                apply xr_in_readSizes_127
                rw [w_32_id (x := 11 + -1) (by decide) (by decide), if_neg (by decide), if_pos (by decide), if_pos w18]
                exact h0 rfl m2 (fun i j q _ => (f2' i j q).trans (f1' i j q))
            · rw [if_neg w18]
              rw [if_pos (by omega)] at h1 h0
              apply xr_in_readSizes_127
              rw [if_neg (by decide), if_neg (by decide), w_32_id (x := at' + 1) (by omega) (by omega), if_neg (by omega)]
              exact fill 1 v x1 m1 v0 (by omega) (by decide) (by omega) (by omega) J1 (fun i j q => f1' i j q) h1 h0
      · have eS : y_S f0 19 I (8 * N) x = (1, v, x1) := y1
        rw [eS, if_pos rfl] at h0
        rw [if_pos (by decide)]
        exact h0 rfl m1 (fun i j q _ => f1' i j (by omega))
    · rw [if_neg za] at h1 h0
      rw [if_neg za]
      exact h1 x g rfl (Int.le_refl _) m (fun _ _ _ _ => rfl) hJ (fun i q1 q2 => hg i q1 (by omega))
end YY
