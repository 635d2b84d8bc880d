/-! ===== a zlib stream, whole: both sides ===== -/
noncomputable def y_bk (I : Int → Int) (M w x : Int) (o : List Int) : Int × Int × List Int := by
  classical exact (if w = 0 then y_str I M x o else if w = 1 then y_cod I M (y_S y_f1 288 I M) (y_S y_f2 30 I M) 8001 x o
    else if w = 2 then (if y_dok I M x then y_cod I M (y_S (y_rsx I M x).2.2 (y_lits I x).toNat I M) (y_S (fun i => (y_rsx I M x).2.2 ((y_lits I x).toNat + i)) (y_dsts I x).toNat I M) 8001 (y_rsx I M x).2.1 o else (1, x, o)) else (1, x, o))
noncomputable def y_blk (I : Int → Int) (M : Int) : Nat → Int → List Int → Int × Int × List Int
  | 0, x, o => (1, x, o)
  | k + 1, x, o => if M < x + 3 then (1, x, o) else if (y_bk I M (y_V I (x + 1) 2) (x + 3) o).1 = 1 then (1, x, o) else if y_V I x 1 = 1 then y_bk I M (y_V I (x + 1) 2) (x + 3) o else y_blk I M k (y_bk I M (y_V I (x + 1) 2) (x + 3) o).2.1 (y_bk I M (y_V I (x + 1) 2) (x + 3) o).2.2
/-- what comes behind the blocks -/
def y_end (I : Int → Int) (N x : Int) (o : List Int) : Prop := y_al x / 8 + 4 = N ∧ I (y_al x / 8) = (a_ad (fun i => o.getD i.toNat 0) o.length).2 / 256 ∧ I (y_al x / 8 + 1) = (a_ad (fun i => o.getD i.toNat 0) o.length).2 % 256 ∧ I (y_al x / 8 + 2) = (a_ad (fun i => o.getD i.toNat 0) o.length).1 / 256 ∧ I (y_al x / 8 + 3) = (a_ad (fun i => o.getD i.toNat 0) o.length).1 % 256
/-- how it begins -/
def y_beg (I : Int → Int) (N : Int) : Prop := 2 ≤ N ∧ I 0 % 16 = 8 ∧ I 0 / 16 ≤ 7 ∧ I 1 / 32 % 2 = 0 ∧ (I 0 * 256 + I 1) % 31 = 0
/-- the bytes that are decoded -/
def y_zl (I : Int → Int) (N : Int) (o : List Int) : Prop := y_beg I N ∧ ∃ x, y_blk I (8 * N) (8 * N + 1).toNat 16 [] = (0, x, o) ∧ y_end I N x o
section YW
variable {d : Nat} {m m' m2 n n' n2 : w_M} {Q : Int → w_M → Prop} {I f1 f2 g : Int → Int} {A base N O x c M v : Int} {o : List Int} {n1 k2 k : Nat}
theorem y_sts.cf (h : y_sts m) (hO : O = 387 ∨ O = 388) (hf : y_cf O m m') : y_sts m' := by
  obtain ⟨h1, h2, h3⟩ := h
  exact ⟨fun s q1 q2 => by rw [hf _ _ (by omega) (by omega) (by omega), hf _ _ (by omega) (by omega) (by omega)]; exact h1 s q1 q2, fun s q1 q2 => by rw [hf _ _ (by omega) (by omega) (by omega), hf _ _ (by omega) (by omega) (by omega)]; exact h2 s q1 q2, fun s q1 q2 => by rw [hf _ _ (by omega) (by omega) (by omega)]; exact h3 s q1 q2⟩
theorem bk_0 : y_bk I M 0 x o = y_str I M x o := if_pos rfl
theorem bk_1 : y_bk I M 1 x o = y_cod I M (y_S y_f1 288 I M) (y_S y_f2 30 I M) 8001 x o := (if_neg (by decide)).trans (if_pos rfl)
theorem bk_2 (h : y_dok I M x) : y_bk I M 2 x o = y_cod I M (y_S (y_rsx I M x).2.2 (y_lits I x).toNat I M) (y_S (fun i => (y_rsx I M x).2.2 ((y_lits I x).toNat + i)) (y_dsts I x).toNat I M) 8001 (y_rsx I M x).2.1 o := (if_neg (by decide)).trans ((if_neg (by decide)).trans ((if_pos rfl).trans (if_pos h)))
theorem bk_2n (h : ¬ y_dok I M x) : y_bk I M 2 x o = (1, x, o) := (if_neg (by decide)).trans ((if_neg (by decide)).trans ((if_pos rfl).trans (if_neg h)))
theorem bk_3 : y_bk I M 3 x o = (1, x, o) := (if_neg (by decide)).trans ((if_neg (by decide)).trans (if_neg (by decide)))
theorem blk_0 (h : M < x + 3) : y_blk I M (k + 1) x o = (1, x, o) := if_pos h
theorem blk_1 (h : ¬ M < x + 3) (h2 : (y_bk I M (y_V I (x + 1) 2) (x + 3) o).1 = 1) : y_blk I M (k + 1) x o = (1, x, o) := (if_neg h).trans (if_pos h2)
theorem blk_l (h : ¬ M < x + 3) (h2 : (y_bk I M (y_V I (x + 1) 2) (x + 3) o).1 ≠ 1) (h3 : y_V I x 1 = 1) : y_blk I M (k + 1) x o = y_bk I M (y_V I (x + 1) 2) (x + 3) o := (if_neg h).trans ((if_neg h2).trans (if_pos h3))
theorem blk_s (h : ¬ M < x + 3) (h2 : (y_bk I M (y_V I (x + 1) 2) (x + 3) o).1 ≠ 1) (h3 : y_V I x 1 ≠ 1) : y_blk I M (k + 1) x o = y_blk I M k (y_bk I M (y_V I (x + 1) 2) (x + 3) o).2.1 (y_bk I M (y_V I (x + 1) 2) (x + 3) o).2.2 := (if_neg h).trans ((if_neg h2).trans (if_neg h3))
theorem y_w32_b {v : Int} (h0 : 0 ≤ v) (h1 : v < 4294967296) : w_32 v = v ∨ w_32 v = v - 4294967296 := by
  unfold w_32
  rw [Int.bmod_def]
  split <;> omega
/-- the end, in the class -/
theorem sp_in_endsWell (hJ : y_J m A base N I O x o) (x0 : 0 ≤ x) (h1 : y_end I N x o → ∀ m', y_cf O m m' → m' 379 10 = o.length → (∀ i : Nat, i < o.length → m' O i = o.getD i 0) → Q 1 m') (h0 : ¬ y_end I N x o → ∀ m', y_cf O m m' → Q 0 m') : xc_in_endsWell (d + 3) m Q := by
  obtain ⟨j1, ⟨h, j2, j3, j4⟩, j5, j6, j7, j8, j9, j10⟩ := id hJ
  have hO2 := y_oO j6
  apply xr_in_endsWell
  apply xr_in_toWholeByte
  have f0 : y_fr m (w_up (w_up m 379 13 0) 379 14 0) := fun i j q => by unfold w_up; rw [if_neg (by omega), if_neg (by omega)]
  obtain ⟨a1, a2, a3, a4, a5⟩ := j2
  have exa : y_al x = x + h := by unfold y_al; omega
  have at0 : y_at (w_up (w_up m 379 13 0) 379 14 0) base I (y_al x) 0 := by
    refine ⟨?_, by omega, by rw [w_up_eq]; rfl, by rw [w_up_nb (by decide), w_up_eq]; rfl, by omega⟩
    rw [w_up_nb (by decide), w_up_nb (by decide), a1]; omega
  obtain ⟨ma, hma⟩ : ∃ ma, ma = w_up (w_up m 379 13 0) 379 14 0 := ⟨_, rfl⟩
  rw [← hma] at f0 at0 ⊢
  have Ja := hJ.fr f0 at0 (by decide) (by omega)
  obtain ⟨b1, b2, b3, b4, b5, b6, b7, b8⟩ := id Ja
  have hN := b1.2.2.2.2.2.2.1
  rw [b3, b6]
  refine ⟨hO2.2.2.2.2.1, ?_⟩
  obtain ⟨K, hK⟩ : ∃ K : Nat, K = o.length := ⟨_, rfl⟩
  unfold y_end at h1 h0
  rw [← hK] at b6 b7 b8 h1 h0 ⊢
  refine sp_wr_adler (d := d + 1) (f := fun i => o.getD i.toNat 0) hO2.2.1 hO2.1 (by decide) (by omega) (by rw [hO2.2.2.1]; omega) (by rw [hO2.2.2.1]; decide) (fun i q1 q2 => ?_) ?_
  · have := b8 i.toNat (by omega)
    rw [show ((i.toNat : Nat) : Int) = i by omega] at this
    rw [Int.zero_add, this]
  · rw [show ((K : Int)).toNat = K by omega]
    obtain ⟨⟨r1, r2⟩, r3, r4⟩ := a_ad_r (fun i => o.getD i.toNat 0) K
    obtain ⟨a, ha⟩ : ∃ a, a = (a_ad (fun i => o.getD i.toNat 0) K).1 := ⟨_, rfl⟩
    obtain ⟨b, hb⟩ : ∃ b, b = (a_ad (fun i => o.getD i.toNat 0) K).2 := ⟨_, rfl⟩
    rw [← ha] at r1 r2 h1 h0 ⊢
    rw [← hb] at r3 r4 h1 h0 ⊢
    have hs := y_w32_b (v := b * 65536 + a) (by omega) (by omega)
    have hsr := w_32_r (b * 65536 + a)
    obtain ⟨s, hs'⟩ : ∃ s, s = w_32 (b * 65536 + a) := ⟨_, rfl⟩
    rw [← hs'] at hs hsr ⊢
    have sh24 : w_shr s 24 % 256 = b / 256 := by
      rw [w_shr_v hsr (by decide) (by decide)]
      show s / 16777216 % 256 = _
      omega
    have sh16 : w_shr s 16 % 256 = b % 256 := by
      rw [w_shr_v hsr (by decide) (by decide)]
      show s / 65536 % 256 = _
      omega
    have sh8 : w_shr s 8 % 256 = a / 256 := by
      rw [w_shr_v hsr (by decide) (by decide)]
      show s / 256 % 256 = _
      omega
    have sh0 : w_shr s 0 % 256 = a % 256 := by
      rw [w_shr_v hsr (by decide) (by decide)]
      show s / 1 % 256 = _
      omega
    obtain ⟨p, hp⟩ : ∃ p, p = y_al x / 8 := ⟨_, rfl⟩
    have exp : y_al x = 8 * p := by unfold y_al at hp ⊢; omega
    rw [← hp] at h1 h0
    rw [exp] at at0 Ja
    have byte : ∀ (q : Int) (m1 : w_M) (h1' : Nat) (w : Int), p ≤ q → y_J m1 A base N I O (8 * q) o → y_cf O m m1 → y_at m1 base I (8 * q) h1' → h1' ≤ 7 → 0 ≤ w →
        (q < N → I q = w_shr s w % 256 → ∀ (m2 : w_M) (h2 : Nat), y_cf O m m2 → y_J m2 A base N I O (8 * (q + 1)) o → y_at m2 base I (8 * (q + 1)) h2 → h2 ≤ 7 → xp_in_endsWell_20 (d + 2) s (w_32 (w + (-8))) m2 Q) →
        (¬ (q < N ∧ I q = w_shr s w % 256) → ∀ m2, y_cf O m m2 → Q 0 m2) → xp_in_endsWell_20 (d + 2) s w m1 Q := by
      intro q m1 h1' w pq J1 c1 at1 h17 w0 g1 g0
      apply xr_in_endsWell_20
      rw [if_neg (by omega)]
      have hx := J1.2.1
      obtain ⟨hh, z1, z2, z3⟩ := hx
      have eh : hh = h1' := by have := z1.2.2.1; have := at1.2.2.1; omega
      subst eh
      refine sp_in_bits (d := d + 1) 8 (by decide) J1.1 at1 h17 z3 (fun w2 m2 h2 f2' at2 h27 hx2 => ?_) (fun w2 m2 h2 f2' at2 hxe hlt => ?_)
      · have e8 : 8 * q + ((8 : Nat) : Int) = 8 * (q + 1) := by omega
        rw [e8] at at2 hx2
        have rI : 0 ≤ I q ∧ I q < 256 := by
          have := J1.1.2.2.2.2.2.2.2.2.2.2 q (by omega) (by omega)
          omega
        rw [y_V_byte rI.1 rI.2]
        by_cases z : I q = w_shr s w % 256
        · rw [if_pos z]
          exact g1 (by omega) z m2 h2 (c1.tr f2'.cf) (J1.fr f2' at2 h27 hx2) at2 h27
        · rw [if_neg z]
          exact g0 (fun y => z y.2) m2 (c1.tr f2'.cf)
      · rw [if_neg (by omega)]
        exact g0 (fun y => by omega) m2 (c1.tr f2'.cf)
    refine byte p ma 0 24 (Int.le_refl _) Ja (f0.cf) at0 (by decide) (by decide) (fun qN1 qe1 m2 h2 c2 J2 at2 h27 => ?_) (fun y m2 c2 => ?_)
    · rw [sh24] at qe1
      rw [w_32_id (by decide) (by decide), show (24 : Int) + -8 = 16 by decide]
      refine byte (p + 1) m2 h2 16 (by omega) J2 c2 at2 h27 (by decide) (fun qN2 qe2 m3 h3 c3 J3 at3 h37 => ?_) (fun y m3 c3 => ?_)
      · rw [sh16] at qe2
        rw [w_32_id (by decide) (by decide), show (16 : Int) + -8 = 8 by decide]
        refine byte (p + 1 + 1) m3 h3 8 (by omega) J3 c3 at3 h37 (by decide) (fun qN3 qe3 m4 h4 c4 J4 at4 h47 => ?_) (fun y m4 c4 => ?_)
        · rw [sh8] at qe3
          rw [w_32_id (by decide) (by decide), show (8 : Int) + -8 = 0 by decide]
          refine byte (p + 1 + 1 + 1) m4 h4 0 (by omega) J4 c4 at4 h47 (by decide) (fun qN4 qe4 m5 h5 c5 J5 at5 h57 => ?_) (fun y m5 c5 => ?_)
          · rw [sh0] at qe4
            rw [w_32_id (by decide) (by decide), show (0 : Int) + -8 = -8 by decide]
            apply xr_in_endsWell_20
            rw [if_pos (by decide)]
            obtain ⟨t1, t2, t3, t4, t5, t6, t7, t8⟩ := J5
            have e7 := at5.1
            have e75 := at5.2.1
            have e8 := t1.2.2.2.2.2.2.2.2.2.1
            have q2 : p + 2 = p + 1 + 1 := by omega
            have q3 : p + 3 = p + 1 + 1 + 1 := by omega
            by_cases z : m5 379 7 = m5 379 8
            · rw [if_pos z]
              refine h1 ⟨by omega, qe1, qe2, by rw [q2]; exact qe3, by rw [q3]; exact qe4⟩ m5 c5 (by rw [hK]; exact t6) (fun i q => t8 i (by omega))
            · rw [if_neg z]
              exact h0 (fun y => by have := y.1; omega) m5 c5
          · rw [sh0] at y
            have q3 : p + 3 = p + 1 + 1 + 1 := by omega
            exact h0 (fun w => y ⟨by have := w.1; omega, by rw [← q3]; exact w.2.2.2.2⟩) m5 c5
        · rw [sh8] at y
          have q2 : p + 2 = p + 1 + 1 := by omega
          exact h0 (fun w => y ⟨by have := w.1; omega, by rw [← q2]; exact w.2.2.2.1⟩) m4 c4
      · rw [sh16] at y
        exact h0 (fun w => y ⟨by have := w.1; omega, w.2.2.1⟩) m3 c3
    · rw [sh24] at y
      exact h0 (fun w => y ⟨by have := w.1; omega, w.2.1⟩) m2 c2
end YW
