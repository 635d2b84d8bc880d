/-! ===== dynamic blocks' heads: both sides ===== -/
section YQ
variable {d : Nat} {m m' m2 n n' n2 : w_M} {Q : Int → w_M → Prop} {I f1 f2 g : Int → Int} {A base N O x c M v all at' : Int} {o : List Int} {n1 k2 k : Nat}
theorem y_cf.up (h : y_cf O m m') {j u : Int} (hj : j = 11 ∨ j = 12) : y_cf O m (w_up m' 379 j u) := fun p q w1 w2 w3 => by unfold w_up; rw [if_neg (by omega)]; exact h p q w1 w2 w3
theorem y_fr.cf (h : y_fr m m') : y_cf O m m' := fun a b q _ _ => h a b (by omega)
theorem y_tf.cf (h : y_tf m m') : y_cf O m m' := fun a b _ q _ => h a b q
theorem y_bf.tf {c s : Int} {k : Nat} (h : y_bf c s m m') (ha : y_ar c s k) : y_tf m m' := by
  intro i j q
  rcases ha with ⟨rfl, rfl, _⟩ | ⟨rfl, rfl, _⟩
  · exact h i j (by omega) (by omega) (by omega)
  · exact h i j (by omega) (by omega) (by omega)
/-- what the head's three numbers say -/
def y_lits (I : Int → Int) (x : Int) : Int := y_V I x 5 + 257
def y_dsts (I : Int → Int) (x : Int) : Int := y_V I (x + 5) 5 + 1
def y_many (I : Int → Int) (x : Int) : Int := y_V I (x + 10) 4 + 4
theorem sp_in_readCodes (hst : y_sts m) (hJ : y_J m A base N I O x o) (x0 : 0 ≤ x)
    (h1 : x + 14 ≤ 8 * N → y_lits I x ≤ 286 → y_dsts I x ≤ 30 → x + 14 + 3 * y_many I x ≤ 8 * N → y_lf (y_c (y_f0 I (x + 14) (y_many I x)) 19) 15 1 1 = 0 → ∀ m', y_cf O m m' → y_J m' A base N I O (x + 14 + 3 * y_many I x) o → m' 379 11 = y_lits I x → m' 379 12 = y_dsts I x → y_cn m' 381 (y_f0 I (x + 14) (y_many I x)) 19 → y_sy m' 382 (y_f0 I (x + 14) (y_many I x)) 19 19 → Q 1 m')
    (h0 : ¬ (x + 14 ≤ 8 * N ∧ y_lits I x ≤ 286 ∧ y_dsts I x ≤ 30 ∧ x + 14 + 3 * y_many I x ≤ 8 * N ∧ y_lf (y_c (y_f0 I (x + 14) (y_many I x)) 19) 15 1 1 = 0) → ∀ m', y_cf O m m' → Q 0 m') : xc_in_readCodes (d + 3) m Q := by
  obtain ⟨j1, ⟨h, j2, j3, j4⟩, jr⟩ := id hJ
  have hO := hJ.2.2.2.1
  have hO2 := y_oO hO
  have p5 : ((2 ^ 5 : Nat) : Int) = 32 := rfl
  have p4 : ((2 ^ 4 : Nat) : Int) = 16 := rfl
  have v5 := y_V_r I x 5
  have v52 := y_V_r I (x + 5) 5
  have v4 := y_V_r I (x + 10) 4
  apply xr_in_readCodes
  refine sp_in_bits (d := d + 1) 5 (by decide) j1 j2 j3 j4 (fun w m1 h1' f1' at1 h17 hx1 => ?_) (fun w m1 h1' f1' at1 hxe hlt => ?_)
  · rw [w_32_id (x := y_V I x 5 + 257) (by omega) (by omega)]
    have J1 := (hJ.fr f1' at1 h17 hx1).up1 (j := 11) (u := y_V I x 5 + 257) (Or.inl rfl)
    have c1 : y_cf O m (w_up m1 379 11 (y_V I x 5 + 257)) := f1'.cf.up (Or.inl rfl)
    have s1 : y_sts (w_up m1 379 11 (y_V I x 5 + 257)) := by
      obtain ⟨z1, z2, z3⟩ := hst
      exact ⟨fun s q1 q2 => by rw [w_up_ne (by decide), w_up_ne (by decide), f1' _ _ (by omega), f1' _ _ (by omega)]; exact z1 s q1 q2, fun s q1 q2 => by rw [w_up_ne (by decide), w_up_ne (by decide), f1' _ _ (by omega), f1' _ _ (by omega)]; exact z2 s q1 q2, fun s q1 q2 => by rw [w_up_ne (by decide), f1' _ _ (by omega)]; exact z3 s q1 q2⟩
    obtain ⟨mb, hmb⟩ : ∃ mb, mb = w_up m1 379 11 (y_V I x 5 + 257) := ⟨_, rfl⟩
    have e11 : mb 379 11 = y_V I x 5 + 257 := by rw [hmb, w_up_eq]
    rw [← hmb] at J1 c1 s1 ⊢
    obtain ⟨a1, ⟨hb, a2, a3, a4⟩, ar⟩ := id J1
    refine sp_in_bits (d := d + 1) 5 (by decide) a1 a2 a3 a4 (fun w2 m2 h2 f2' at2 h27 hx2 => ?_) (fun w2 m2 h2 f2' at2 hxe hlt => ?_)
    · have e5 : x + ((5 : Nat) : Int) = x + 5 := rfl
      rw [e5] at J1 at2 hx2 w2 w ⊢
      rw [w_32_id (x := y_V I (x + 5) 5 + 1) (by omega) (by omega)]
      have J2 := (J1.fr f2' at2 h27 hx2).up1 (j := 12) (u := y_V I (x + 5) 5 + 1) (Or.inr rfl)
      have c2 : y_cf O m (w_up m2 379 12 (y_V I (x + 5) 5 + 1)) := (c1.tr f2'.cf).up (Or.inr rfl)
      have s2 : y_sts (w_up m2 379 12 (y_V I (x + 5) 5 + 1)) := by
        obtain ⟨z1, z2, z3⟩ := s1
        exact ⟨fun s q1 q2 => by rw [w_up_ne (by decide), w_up_ne (by decide), f2' _ _ (by omega), f2' _ _ (by omega)]; exact z1 s q1 q2, fun s q1 q2 => by rw [w_up_ne (by decide), w_up_ne (by decide), f2' _ _ (by omega), f2' _ _ (by omega)]; exact z2 s q1 q2, fun s q1 q2 => by rw [w_up_ne (by decide), f2' _ _ (by omega)]; exact z3 s q1 q2⟩
      obtain ⟨mc, hmc⟩ : ∃ mc, mc = w_up m2 379 12 (y_V I (x + 5) 5 + 1) := ⟨_, rfl⟩
      have g11 : mc 379 11 = y_V I x 5 + 257 := by rw [hmc, w_up_nb (by decide), f2' _ _ (by omega)]; exact e11
      have g12 : mc 379 12 = y_V I (x + 5) 5 + 1 := by rw [hmc, w_up_eq]
      rw [← hmc] at J2 c2 s2 ⊢
      obtain ⟨b1, ⟨hc, b2, b3, b4⟩, br⟩ := id J2
      refine sp_in_bits (d := d + 1) 4 (by decide) b1 b2 b3 b4 (fun w3 m3 h3 f3' at3 h37 hx3 => ?_) (fun w3 m3 h3 f3' at3 hxe hlt => ?_)
      · have J3 := J2.fr f3' at3 h37 hx3
        have c3 : y_cf O m m3 := c2.tr f3'.cf
        have i11 : m3 379 11 = y_V I x 5 + 257 := (f3' _ _ (by omega)).trans g11
        have i12 : m3 379 12 = y_V I (x + 5) 5 + 1 := (f3' _ _ (by omega)).trans g12
        have e14 : x + 5 + ((5 : Nat) : Int) + ((4 : Nat) : Int) = x + 14 := by omega
        rw [e14] at J3
        have ex10 : x + 5 + ((5 : Nat) : Int) = x + 10 := by omega
        rw [ex10] at w3 ⊢
        rw [i11, if_neg (by omega), w_32_id (x := y_V I (x + 10) 4 + 4) (by omega) (by omega)]
        unfold y_lits y_dsts y_many at h1 h0
        by_cases q1 : 286 < y_V I x 5 + 257
        · rw [if_pos q1]
          exact h0 (fun y => by omega) m3 c3
        · rw [if_neg q1, i12, if_neg (by omega)]
          by_cases q2 : 30 < y_V I (x + 5) 5 + 1
          · rw [if_pos q2]
            exact h0 (fun y => by omega) m3 c3
          · rw [if_neg q2, if_neg (by omega)]
            refine sp_fill (N := 320) (d := d + 1) (by decide) s0_380 (by decide) (w_EC (by decide)) (fun m4 f4 g4 => ?_)
            have tf4 : y_tf m3 m4 := fun i j q => f4 i j (by omega)
            have J4 := J3.tf tf4
            have s4 : ∀ k, 0 ≤ k → k < 19 → m4 352 k = w_ORDER.getD k.toNat 0 := fun k q1 q2 => by rw [f4 _ _ (by omega), f3' _ _ (by omega)]; exact s2.2.2 k q1 q2
            obtain ⟨mn, hmn⟩ : ∃ mn, mn = y_V I (x + 10) 4 + 4 := ⟨_, rfl⟩
            rw [← hmn] at h1 h0 ⊢
            -- the lengths of the codes' codes
            have fin : ∀ m5 : w_M, x + 14 + 3 * mn ≤ 8 * N → (∀ i j : Int, ¬ (i = 379 ∧ (j = 7 ∨ j = 13 ∨ j = 14)) → ¬ (380 ≤ i ∧ i ≤ 385) → m5 i j = m3 i j) → y_J m5 A base N I O (x + 14 + 3 * mn) o → (∀ i, 0 ≤ i → i < 19 → m5 380 i = y_f0 I (x + 14) mn i) → xc_in_build (d + 2) 381 382 0 19 m5 (fun r2 m2 => if r2 = 0 then (Q 1 m2) else (Q 0 m2)) := by
              intro m5 wM f5 J5 g5
              refine sp_in_build (d := d) (k := 19) (f := y_f0 I (x + 14) mn) (Or.inl ⟨rfl, rfl, by decide⟩) (by decide) (fun i hi => ⟨by rw [Int.zero_add]; exact g5 i (by omega) (by omega), y_f0_r i⟩) (fun m6 b61 b62 b63 => ?_)
              have tf6 := b61.tf (k := 19) (Or.inl ⟨rfl, rfl, by decide⟩)
              have c6 : y_cf O m m6 := fun i j q1 q2 q3 => (tf6 i j q2).trans ((f5 i j (by omega) q2).trans (c3 i j q1 q2 q3))
              by_cases z : y_lf (y_c (y_f0 I (x + 14) mn) 19) 15 1 1 = 0
              · rw [if_pos z]
                exact h1 (by omega) (by omega) (by omega) wM z m6 c6 (J5.tf tf6) (by rw [tf6 _ _ (by omega), f5 _ _ (by omega) (by omega)]; exact i11) (by rw [tf6 _ _ (by omega), f5 _ _ (by omega) (by omega)]; exact i12) b62 (b63 (by omega))
              · rw [if_neg z]
                exact h0 (fun y => z y.2.2.2.2) m6 c6
            have loop : ∀ (k : Nat) (i : Int) (m5 : w_M), i + k = mn → 0 ≤ i → (∀ p j : Int, ¬ (p = 379 ∧ (j = 7 ∨ j = 13 ∨ j = 14)) → ¬ (380 ≤ p ∧ p ≤ 385) → m5 p j = m3 p j) → y_J m5 A base N I O (x + 14 + 3 * i) o → (∀ p, 0 ≤ p → p < 19 → m5 380 p = y_f0 I (x + 14) i p) → xp_in_readCodes_86 (d + 2) mn i m5 Q := by
              intro k
              induction k with
              | zero =>
                intro i m5 hi i0 f5 J5 g5
                have : i = mn := by omega
                subst this
                have hJx := J5.2.1
                obtain ⟨hh, z1, z2, z3⟩ := hJx
                apply xr_in_readCodes_86
                rw [if_neg (by omega)]
                exact fin m5 (by omega) f5 J5 g5
              | succ k ih =>
                intro i m5 hi i0 f5 J5 g5
                obtain ⟨c51, ⟨h5, c52, c53, c54⟩, c5r⟩ := id J5
                apply xr_in_readCodes_86
                rw [if_pos (by omega), if_pos (by omega)]
                refine sp_in_bits (d := d + 1) 3 (by decide) c51 c52 c53 c54 (fun w6 m6 h6 f6' at6 h67 hx6 => ?_) (fun w6 m6 h6 f6' at6 hxe hlt => ?_)
                · have J6 := J5.fr f6' at6 h67 hx6
                  have v3 := y_V_r I (x + 14 + 3 * i) 3
                  have od := y_od (m := m6) (k := i) ⟨i0, by omega⟩
                  have e352 : m6 352 i = w_ORDER.getD i.toNat 0 := by rw [f6' _ _ (by omega), f5 _ _ (by omega) (by omega), ← f4 352 i (by omega)]; exact s4 i i0 (by omega)
                  rw [if_neg (by omega), e352, w_32_id (x := i + 1) (by omega) (by omega)]
                  refine ⟨⟨i0, by omega⟩, by omega, ?_⟩
                  have tf7 : y_tf m6 (w_up m6 380 (w_ORDER.getD i.toNat 0) (y_V I (x + 14 + 3 * i) 3)) := fun p j q => by rw [w_up_ne (by omega)]
                  have J7 := J6.tf tf7
                  rw [show x + 14 + 3 * i + ((3 : Nat) : Int) = x + 14 + 3 * (i + 1) by omega] at J7
                  refine ih (i + 1) _ (by omega) (by omega) (fun p j q q2 => (tf7 p j q2).trans ((f6' p j q).trans (f5 p j q q2))) J7 (fun p q1 q2 => ?_)
                  have op := y_od (m := m6) (k := p) ⟨q1, q2⟩
                  by_cases z : p = w_ORDER.getD i.toNat 0
                  · rw [z, w_up_eq]
                    unfold y_f0
                    rw [od.1, if_pos (by omega)]
                  · rw [w_up_nb z, f6' _ _ (by omega), g5 p q1 q2]
                    have ne : y_iv p ≠ i := by
                      intro e
                      apply z
                      rw [← e, op.2.2.2.2.2.2]
                    unfold y_f0
                    by_cases y : y_iv p < i
                    · rw [if_pos y, if_pos (by omega)]
                    · rw [if_neg y, if_neg (by omega)]
                · rw [if_pos (by decide)]
                  exact h0 (fun y => by omega) m6 (fun p j q1 q2 q3 => (f6' p j (by omega)).trans ((f5 p j (by omega) q2).trans (c3 p j q1 q2 q3)))
            refine loop mn.toNat 0 m4 (by omega) (by decide) (fun p j q q2 => f4 p j (by omega)) (by rw [show x + 14 + 3 * 0 = x + 14 by omega]; exact J4) (fun p q1 q2 => ?_)
            rw [g4 p q1 (by omega)]
            have op := y_od (m := m4) (k := p) ⟨q1, q2⟩
            unfold y_f0
            rw [if_neg (by omega)]
      · have c3 : y_cf O m m3 := c2.tr f3'.cf
        rw [f3' 379 11 (by omega), g11, if_neg (by omega)]
        have go : Q 0 m3 := h0 (fun y => by omega) m3 c3
        have e3 : w_32 (-1 + 4) = 3 := w_32_id (by decide) (by decide)
        rw [e3, if_pos (show (3 : Int) < 4 by decide)]
        split
        · exact go
        · split
          · exact go
          · split
            · exact go
            · exact go
    · have e0 : w_32 (-1 + 1) = 0 := w_32_id (by decide) (by decide)
      rw [e0]
      have J2i : y_in (w_up m2 379 12 0) A base N I := by
        have := (J1.fr f2' at2 (by omega) (by omega)).up1 (j := 12) (u := 0) (Or.inr rfl)
        exact this.1
      have e14 : w_up m2 379 12 0 379 14 = h2 := by rw [w_up_nb (by decide)]; exact at2.2.2.1
      refine sp_in_bits_any (d := d + 1) 4 (by decide) J2i (by omega) (by omega) (fun r m3 f3' z0 z1 => ?_)
      have c3 : y_cf O m m3 := ((c1.tr f2'.cf).up (u := 0) (Or.inr rfl)).tr f3'.cf
      have go : Q 0 m3 := h0 (fun y => by omega) m3 c3
      have g12 : m3 379 12 = 0 := by rw [f3' _ _ (by omega), w_up_eq]
      rw [g12, if_pos (show (0 : Int) < 1 by decide)]
      split
      · exact go
      · split
        · exact go
        · exact go
  · have e256 : w_32 (-1 + 257) = 256 := w_32_id (by decide) (by decide)
    rw [e256]
    have J1i : y_in (w_up m1 379 11 256) A base N I := ((hJ.fr f1' at1 (by omega) (by omega)).up1 (j := 11) (u := 256) (Or.inl rfl)).1
    have e14 : w_up m1 379 11 256 379 14 = h1' := by rw [w_up_nb (by decide)]; exact at1.2.2.1
    have c1 : y_cf O m (w_up m1 379 11 256) := f1'.cf.up (Or.inl rfl)
    refine sp_in_bits_any (d := d + 1) 5 (by decide) J1i (by omega) (by omega) (fun r m2 f2' z0 z1 => ?_)
    have J2i := J1i.fr f2'
    have c2 : y_cf O m (w_up m2 379 12 (w_32 (r + 1))) := (c1.tr f2'.cf).up (Or.inr rfl)
    have J3i : y_in (w_up m2 379 12 (w_32 (r + 1))) A base N I := by
      obtain ⟨i1, i2, i3, i4, i5, i6, i7, i8, i9, k1, k2⟩ := J2i
      exact ⟨i1, i2, i3, i4, i5, i6, i7, i8, by rw [w_up_nb (by decide)]; exact i9, by rw [w_up_nb (by decide)]; exact k1, fun i q1 q2 => by rw [w_up_ne i2]; exact k2 i q1 q2⟩
    refine sp_in_bits_any (d := d + 1) 4 (by decide) J3i (by rw [w_up_nb (by decide)]; exact z0) (by rw [w_up_nb (by decide)]; exact z1) (fun r3 m3 f3' y0 y1 => ?_)
    have g11 : m3 379 11 = 256 := by rw [f3' _ _ (by omega), w_up_nb (by decide), f2' _ _ (by omega), w_up_eq]
    rw [g11, if_pos (by decide)]
    exact h0 (fun y => by omega) m3 (c2.tr f3'.cf)
end YQ
