/-! ===== literals and rows up to a block's end: both sides ===== -/
/-- the rows that never change -/
def y_sts (m : w_M) : Prop := (∀ s, 0 ≤ s → s < 29 → m 353 s = y_lb s ∧ m 354 s = y_lx s) ∧ (∀ s, 0 ≤ s → s < 30 → m 355 s = y_db s ∧ m 356 s = y_dx s) ∧ ∀ k, 0 ≤ k → k < 19 → m 352 k = w_ORDER.getD k.toNat 0
theorem y_sts_nm {m : w_M} (h : w_nm (w_G0 sC) m) : y_sts m := by
  refine ⟨fun s q1 q2 => ⟨?_, ?_⟩, fun s q1 q2 => ⟨?_, ?_⟩, fun s q1 q2 => ?_⟩
  · exact h.2.1 353 (by decide) s
  · have := h.2.1 354 (by decide) s
    rw [← (y_tl (m := m) ⟨q1, q2⟩).2.2.1]
    exact this
  · exact h.2.1 355 (by decide) s
  · have := h.2.1 356 (by decide) s
    rw [← (y_td (m := m) ⟨q1, q2⟩).2.2.1]
    exact this
  · exact h.2.1 352 (by decide) s
def y_S (f : Int → Int) (n : Nat) (I : Int → Int) (M : Int) : Int → Int × Int × Int := fun x => y_s f n I M 15 0 0 1 x
theorem y_s_r {f I : Int → Int} {n : Nat} {M : Int} : ∀ (k : Nat) (c s l x : Int), (y_s f n I M k c s l x).1 = 0 ∨ (y_s f n I M k c s l x).1 = 1 := by
  intro k
  induction k with
  | zero => intro c s l x; exact Or.inr rfl
  | succ k ih =>
    intro c s l x
    unfold y_s
    split
    · split
      · exact Or.inl rfl
      · exact ih _ _ _ _
    · exact Or.inr rfl
/-- codes of both kinds stand -/
def y_tb (m : w_M) (c1 s1 c2 s2 : Int) (f1 : Int → Int) (n1 : Nat) (f2 : Int → Int) (n2 : Nat) : Prop := y_cn m c1 f1 n1 ∧ y_sy m s1 f1 n1 n1 ∧ y_cn m c2 f2 n2 ∧ y_sy m s2 f2 n2 n2
section YD
variable {d : Nat} {m m' m2 n n' n2 : w_M} {Q : Int → w_M → Prop} {I f1 f2 : Int → Int} {A base N O x c M v : Int} {o : List Int} {n1 k2 k : Nat} {S1 S2 : Int → Int × Int × Int}
theorem cod_f (h : (S1 x).1 = 1) : y_cod I M S1 S2 (k + 1) x o = (1, x, o) := if_pos h
theorem cod_e (h : (S1 x).1 ≠ 1) (h2 : (S1 x).2.1 = 256) : y_cod I M S1 S2 (k + 1) x o = (0, (S1 x).2.2, o) := (if_neg h).trans (if_pos h2)
theorem cod_w0 (h : (S1 x).1 ≠ 1) (h2 : (S1 x).2.1 < 256) (h3 : y_fl o) : y_cod I M S1 S2 (k + 1) x o = (1, x, o) := (if_neg h).trans ((if_neg (by omega)).trans ((if_pos h2).trans (if_pos h3)))
theorem cod_w (h : (S1 x).1 ≠ 1) (h2 : (S1 x).2.1 < 256) (h3 : ¬ y_fl o) : y_cod I M S1 S2 (k + 1) x o = y_cod I M S1 S2 k (S1 x).2.2 (o ++ [w_8 (S1 x).2.1]) := (if_neg h).trans ((if_neg (by omega)).trans ((if_pos h2).trans (if_neg h3)))
theorem cod_b (h : (S1 x).1 ≠ 1) (h2 : 285 < (S1 x).2.1) : y_cod I M S1 S2 (k + 1) x o = (1, x, o) := (if_neg h).trans ((if_neg (by omega)).trans ((if_neg (by omega)).trans (if_pos h2)))
theorem cod_r1 (h : (S1 x).1 ≠ 1) (h2 : 256 < (S1 x).2.1) (h3 : (S1 x).2.1 ≤ 285) (h4 : (y_row I M S2 ((S1 x).2.1 - 257) (S1 x).2.2 o).1 = 1) : y_cod I M S1 S2 (k + 1) x o = (1, x, o) := (if_neg h).trans ((if_neg (by omega)).trans ((if_neg (by omega)).trans ((if_neg (by omega)).trans (if_pos h4))))
theorem cod_r0 (h : (S1 x).1 ≠ 1) (h2 : 256 < (S1 x).2.1) (h3 : (S1 x).2.1 ≤ 285) (h4 : (y_row I M S2 ((S1 x).2.1 - 257) (S1 x).2.2 o).1 ≠ 1) : y_cod I M S1 S2 (k + 1) x o = y_cod I M S1 S2 k (y_row I M S2 ((S1 x).2.1 - 257) (S1 x).2.2 o).2.1 (y_row I M S2 ((S1 x).2.1 - 257) (S1 x).2.2 o).2.2 := (if_neg h).trans ((if_neg (by omega)).trans ((if_neg (by omega)).trans ((if_neg (by omega)).trans (if_neg h4))))
theorem y_tb.fr {c1 s1 c2 s2 : Int} (h : y_tb m c1 s1 c2 s2 f1 n1 f2 k2) (he : ∀ i j : Int, (i = c1 ∨ i = s1 ∨ i = c2 ∨ i = s2) → m' i j = m i j) : y_tb m' c1 s1 c2 s2 f1 n1 f2 k2 := by
  obtain ⟨h1, h2, h3, h4⟩ := h
  exact ⟨fun l q1 q2 => by rw [he _ _ (Or.inl rfl)]; exact h1 l q1 q2, fun i q1 q2 => by rw [he _ _ (Or.inr (Or.inl rfl))]; exact h2 i q1 q2, fun l q1 q2 => by rw [he _ _ (Or.inr (Or.inr (Or.inl rfl)))]; exact h3 l q1 q2, fun i q1 q2 => by rw [he _ _ (Or.inr (Or.inr (Or.inr rfl)))]; exact h4 i q1 q2⟩
theorem y_tb.of (h : y_tb m 381 382 383 384 f1 n1 f2 k2) (hO : O = 387 ∨ O = 388) (hf : y_of O m m') : y_tb m' 381 382 383 384 f1 n1 f2 k2 := h.fr (fun i j q => hf i j (by omega) (by omega))
theorem y_tb.ofr (h : y_tb n 445 446 447 448 f1 n1 f2 k2) (hf : y_ofr n n') : y_tb n' 445 446 447 448 f1 n1 f2 k2 := h.fr (fun i j q => hf i j (by omega) (by omega))
theorem y_sts.of (h : y_sts m) (hO : O = 387 ∨ O = 388) (hf : y_of O m m') : y_sts m' := by
  obtain ⟨h1, h2, h3⟩ := h
  exact ⟨fun s q1 q2 => by rw [hf _ _ (by omega) (by omega), hf _ _ (by omega) (by omega)]; exact h1 s q1 q2, fun s q1 q2 => by rw [hf _ _ (by omega) (by omega), hf _ _ (by omega) (by omega)]; exact h2 s q1 q2, fun s q1 q2 => by rw [hf _ _ (by omega) (by omega)]; exact h3 s q1 q2⟩
/-- what a row is -/
theorem y_V_le (x : Int) (a : Nat) {b : Nat} (hab : a ≤ b) : y_V I x a < ((2 ^ b : Nat) : Int) := by
  have h1 := (y_V_r I x a).2
  have h2 : (2 ^ a : Nat) ≤ 2 ^ b := Nat.pow_le_pow_right (by decide) hab
  omega
theorem sp_in_row (hf2 : ∀ i : Nat, i < k2 → 0 ≤ f2 i ∧ f2 i ≤ 15) (hk2 : k2 ≤ 30) (hv : 0 ≤ v ∧ v < 29) (hst : y_sts m) (htb : y_tb m 381 382 383 384 f1 n1 f2 k2) (hJ : y_J m A base N I O x o) (hby : y_by o) (hx0 : 0 ≤ x)
    (h1 : ∀ x' o', y_row I (8 * N) (y_S f2 k2 I (8 * N)) v x o = (0, x', o') → y_by o' → x ≤ x' → ∀ m', y_of O m m' → y_J m' A base N I O x' o' → Q 1 m') (h0 : (y_row I (8 * N) (y_S f2 k2 I (8 * N)) v x o).1 = 1 → ∀ m', y_of O m m' → Q 0 m') : xc_in_row (d + 3) v m Q := by
  have hO := hJ.2.2.2.1
  have hO2 := y_oO hO
  obtain ⟨e1, e2⟩ := hst.1 v hv.1 hv.2
  obtain ⟨g1, g2, g3, g4, g5, g6⟩ := y_tl (m := m) hv
  have ar : y_ar 383 384 k2 := Or.inr ⟨rfl, rfl, by omega⟩
  obtain ⟨j1, ⟨h, j2, j3, j4⟩, jr⟩ := id hJ
  apply xr_in_row
  rw [if_neg (by omega), if_pos hv.2, if_pos hv.2, e2]
  refine ⟨hv, ?_⟩
  unfold y_row at h1 h0
  refine sp_in_bits (d := d + 1) (y_lx v) (by omega) j1 j2 j3 j4 (fun w m1 h' f1' at1 h7 hx1 => ?_) (fun w m1 h' f1' at1 hxe hlt => ?_)
  · rw [if_neg (by omega)] at h1 h0
    have J1 := hJ.fr f1' at1 h7 hx1
    have tb1 := htb.of hO (f1'.of (O := O))
    have st1 := hst.of hO (f1'.of (O := O))
    have hV := y_V_r I x (y_lx v)
    have hV5 := y_V_le (I := I) x (y_lx v) (b := 5) g6
    refine sp_in_symbol (d := d + 1) ar hf2 tb1.2.2.1 tb1.2.2.2 J1.1 at1 h7 hx1 (fun t x2 y1 t0 t1 tx m2 h2 f2' at2 h27 hx2 => ?_) (fun t x2 y1 m2 f2' z0 z1 => ?_)
    · have eS : y_S f2 k2 I (8 * N) (x + y_lx v) = (0, t, x2) := y1
      rw [eS, if_neg (by show ¬ (0 : Int) = 1; decide)] at h1 h0
      simp only at h1 h0
      have J2 := J1.fr f2' at2 h27 hx2
      have tb2 := tb1.of hO (f2'.of (O := O))
      have st2 := st1.of hO (f2'.of (O := O))
      have t30 : t < 30 := by omega
      obtain ⟨s1, s2⟩ := st2.2.1 t t0 t30
      obtain ⟨q1, q2, q3, q4, q5, q6⟩ := y_td (m := m2) ⟨t0, t30⟩
      rw [if_neg (by omega)] at h1 h0
      rw [if_neg (by omega), if_neg (by omega), if_pos t30, if_pos t30, s2]
      refine ⟨hv, ⟨t0, t30⟩, ?_⟩
      refine sp_in_bits (d := d + 1) (y_dx t) (by omega) J2.1 at2 h27 hx2 (fun w3 m3 h3 f3' at3 h37 hx3 => ?_) (fun w3 m3 h3 f3' at3 hxe hlt => ?_)
      · rw [if_neg (by omega)] at h1 h0
        have J3 := J2.fr f3' at3 h37 hx3
        have st3 := st2.of hO (f3'.of (O := O))
        have hV2 := y_V_r I x2 (y_dx t)
        have hV13 := y_V_le (I := I) x2 (y_dx t) (b := 13) q6
        obtain ⟨s31, s32⟩ := st3.2.1 t t0 t30
        have e53 : m2 353 v = y_lb v := (st2.1 v hv.1 hv.2).1
        have p5 : ((2 ^ 5 : Nat) : Int) = 32 := rfl
        have p13 : ((2 ^ 13 : Nat) : Int) = 8192 := rfl
        rw [s31, e53]
        refine ⟨⟨t0, t30⟩, ?_⟩
        rw [if_neg (by omega), J3.2.2.2.2.2.1, w_32_id (x := y_db t + y_V I x2 (y_dx t)) (by omega) (by omega), w_32_id (x := y_lb v + y_V I x (y_lx v)) (by omega) (by omega)]
        by_cases z : (o.length : Int) < y_db t + y_V I x2 (y_dx t)
        · rw [if_pos z]
          rw [if_pos z] at h0
          exact h0 rfl m3 ((f1'.of (O := O)).tr (f2'.of.tr f3'.of))
        · rw [if_neg z]
          rw [if_neg z] at h1 h0
          have el : (((y_lb v + y_V I x (y_lx v)).toNat : Nat) : Int) = y_lb v + y_V I x (y_lx v) := by omega
          refine sp_in_row_120 (d := d + 1) ⟨by omega, by omega⟩ (by omega) (y_lb v + y_V I x (y_lx v)).toNat 0 m3 o (by decide) (by omega) (by omega) hby J3 (fun o' y2 y3 m4 f4' J4 => ?_) (fun o' y2 m4 f4' => ?_)
          · rw [y2, if_neg (by show ¬ (0 : Int) = 1; decide)] at h1
            exact h1 _ _ rfl y3 (by omega) m4 ((f1'.of (O := O)).tr (f2'.of.tr (f3'.of.tr f4'))) J4
          · rw [y2, if_pos rfl] at h0
            exact h0 rfl m4 ((f1'.of (O := O)).tr (f2'.of.tr (f3'.of.tr f4')))
      · rw [if_pos (by omega)] at h0
        refine ⟨⟨t0, t30⟩, ?_⟩
        rw [if_pos (by decide)]
        exact h0 rfl m3 ((f1'.of (O := O)).tr (f2'.of.tr f3'.of))
    · have eS : y_S f2 k2 I (8 * N) (x + y_lx v) = (1, t, x2) := y1
      rw [eS, if_pos rfl] at h0
      rw [if_neg (by omega), if_pos (by decide)]
      exact h0 rfl m2 ((f1'.of (O := O)).tr f2'.of)
  · rw [if_pos (by omega)] at h0
    have J1 : y_in m1 A base N I := j1.fr f1'
    have tb1 := htb.of hO (f1'.of (O := O))
    refine sp_in_symbol (d := d + 1) ar hf2 tb1.2.2.1 tb1.2.2.2 J1 at1 (by omega) (by omega) (fun t x2 y1 t0 t1 tx m2 h2 f2' at2 h27 hx2 => ?_) (fun t x2 y1 m2 f2' z0 z1 => ?_)
    · rw [if_pos (by decide)]
      exact h0 rfl m2 ((f1'.of (O := O)).tr f2'.of)
    · rw [if_pos (by decide)]
      exact h0 rfl m2 ((f1'.of (O := O)).tr f2'.of)
theorem sp_in_decode_2 (hf1 : ∀ i : Nat, i < n1 → 0 ≤ f1 i ∧ f1 i ≤ 15) (hn1 : n1 ≤ 288) (hf2 : ∀ i : Nat, i < k2 → 0 ≤ f2 i ∧ f2 i ≤ 15) (hk2 : k2 ≤ 30) : ∀ (k : Nat) (l x : Int) (o : List Int) (m : w_M), l + k = 8001 → 0 ≤ l → 0 ≤ x → y_sts m → y_tb m 381 382 383 384 f1 n1 f2 k2 → y_J m A base N I O x o → y_by o →
    (∀ x' o', y_cod I (8 * N) (y_S f1 n1 I (8 * N)) (y_S f2 k2 I (8 * N)) k x o = (0, x', o') → y_by o' → x ≤ x' → ∀ m', y_of O m m' → y_J m' A base N I O x' o' → Q 1 m') → ((y_cod I (8 * N) (y_S f1 n1 I (8 * N)) (y_S f2 k2 I (8 * N)) k x o).1 = 1 → ∀ m', y_of O m m' → Q 0 m') → xp_in_decode_2 (d + 3) l m Q := by
  intro k
  induction k with
  | zero =>
    intro l x o m hl l0 x0 hst htb hJ hby h1 h0
    apply xr_in_decode_2
    rw [if_pos (by omega)]
    exact h0 rfl m y_of.rf
  | succ k ih =>
    intro l x o m hl l0 x0 hst htb hJ hby h1 h0
    have hO := hJ.2.2.2.1
    have ar : y_ar 381 382 n1 := Or.inl ⟨rfl, rfl, hn1⟩
    obtain ⟨j1, ⟨h, j2, j3, j4⟩, jr⟩ := id hJ
    apply xr_in_decode_2
    rw [if_neg (by omega)]
    refine sp_in_symbol (d := d + 2) ar hf1 htb.1 htb.2.1 j1 j2 j3 j4 (fun v x1 y1 v0 v1 vx m1 h' f1' at1 h7 hx1 => ?_) (fun v x1 y1 m1 f1' z0 z1 => ?_)
    · have eS : y_S f1 n1 I (8 * N) x = (0, v, x1) := y1
      have e1 : (y_S f1 n1 I (8 * N) x).1 ≠ 1 := by rw [eS]; show ¬ (0 : Int) = 1; decide
      have e2 : (y_S f1 n1 I (8 * N) x).2.1 = v := by rw [eS]
      have e3 : (y_S f1 n1 I (8 * N) x).2.2 = x1 := by rw [eS]
      have J1 := hJ.fr f1' at1 h7 hx1
      have tb1 := htb.of hO (f1'.of (O := O))
      have st1 := hst.of hO (f1'.of (O := O))
      by_cases q1 : v = 256
      · rw [if_pos q1]
        rw [cod_e e1 (by rw [e2]; exact q1), e3] at h1
        exact h1 _ _ rfl hby (by omega) m1 f1'.of J1
      · rw [if_neg q1, if_neg (by omega)]
        by_cases q2 : v < 256
        · rw [if_pos q2]
          refine sp_in_write (d := d + 2) J1 (fun z m2 f2' J2 => ?_) (fun z => ?_)
          · rw [if_neg (by decide), w_32_id (by omega) (by omega)]
            rw [cod_w e1 (by rw [e2]; exact q2) z, e2, e3] at h1 h0
            exact ih (l + 1) x1 _ m2 (by omega) (by omega) (by omega) (st1.of hO f2') (tb1.of hO f2') J2 hby.app (fun x' o' y2 y3 y4 m3 f3' => h1 x' o' y2 y3 (by omega) m3 ((f1'.of (O := O)).tr (f2'.tr f3'))) (fun y2 m3 f3' => h0 y2 m3 ((f1'.of (O := O)).tr (f2'.tr f3')))
          · rw [if_pos rfl]
            rw [cod_w0 e1 (by rw [e2]; exact q2) z] at h0
            exact h0 rfl m1 f1'.of
        · rw [if_neg q2, w_32_id (x := v - 257) (by omega) (by omega)]
          by_cases q3 : 285 < v
          · rw [cod_b e1 (by rw [e2]; exact q3)] at h0
            apply xr_in_row
            rw [if_neg (by omega), if_neg (by omega), if_pos rfl]
            exact h0 rfl m1 f1'.of
          · refine sp_in_row (d := d) hf2 hk2 ⟨by omega, by omega⟩ st1 tb1 J1 hby (by omega) (fun x' o' y2 y3 y4 m2 f2' J2 => ?_) (fun y2 m2 f2' => ?_)
            · rw [if_neg (by decide), w_32_id (by omega) (by omega)]
              have er : (y_row I (8 * N) (y_S f2 k2 I (8 * N)) ((y_S f1 n1 I (8 * N) x).2.1 - 257) (y_S f1 n1 I (8 * N) x).2.2 o) = (0, x', o') := by rw [e2, e3]; exact y2
              rw [cod_r0 e1 (by rw [e2]; omega) (by rw [e2]; omega) (by rw [er]; show ¬ (0 : Int) = 1; decide), er] at h1 h0
              exact ih (l + 1) x' o' m2 (by omega) (by omega) (by omega) (st1.of hO f2') (tb1.of hO f2') J2 y3 (fun x'' o'' y5 y6 y7 m3 f3' => h1 x'' o'' y5 y6 (by omega) m3 ((f1'.of (O := O)).tr (f2'.tr f3'))) (fun y5 m3 f3' => h0 y5 m3 ((f1'.of (O := O)).tr (f2'.tr f3')))
            · rw [if_pos rfl]
              rw [cod_r1 e1 (by rw [e2]; omega) (by rw [e2]; omega) (by rw [e2, e3]; exact y2)] at h0
              exact h0 rfl m2 ((f1'.of (O := O)).tr f2')
    · have eS : y_S f1 n1 I (8 * N) x = (1, v, x1) := y1
      rw [cod_f (by rw [eS])] at h0
      rw [if_neg (by decide), if_pos (by decide)]
      exact h0 rfl m1 f1'.of
/-- a broken reference goes on no more -/
theorem r_codes_b (h : n 428 40 ≠ 0) (hQ : Q 0 n) : xp_m_codes_0 d n Q := by
  apply xr_m_codes_0
  rw [if_neg h]
  exact hQ
theorem r_br (h : y_ofr n n') : y_ofr n (w_up n' 428 40 c) := h.tr (fun i j q q2 => by unfold w_up; rw [if_neg (by omega)])
theorem r_codes_0 (hf1 : ∀ i : Nat, i < n1 → 0 ≤ f1 i ∧ f1 i ≤ 15) (hn1 : n1 ≤ 288) (hf2 : ∀ i : Nat, i < k2 → 0 ≤ f2 i ∧ f2 i ≤ 15) (hk2 : k2 ≤ 30) : ∀ (k : Nat) (x : Int) (o : List Int) (n : w_M), (8001 : Int) ≤ o.length + k → y_tb n 445 446 447 448 f1 n1 f2 k2 → y_K n N I x o → y_by o →
    (∀ x' o', y_cod I (8 * N) (y_S f1 n1 I (8 * N)) (y_S f2 k2 I (8 * N)) k x o = (0, x', o') → y_by o' → ∀ n', y_ofr n n' → y_K n' N I x' o' → Q 0 n') → ((y_cod I (8 * N) (y_S f1 n1 I (8 * N)) (y_S f2 k2 I (8 * N)) k x o).1 = 1 → ∀ n', y_ofr n n' → n' 428 40 = 1 → Q 0 n') → xp_m_codes_0 (d + 3) n Q := by
  intro k
  induction k with
  | zero =>
    intro x o n hk htb hK
    have := hK.2.2.2.2.2.2.1
    omega
  | succ k ih =>
    intro x o n hk htb hK hby h1 h0
    have ar : y_rr 445 446 n1 := Or.inl ⟨rfl, rfl, hn1⟩
    have ar2 : y_rr 447 448 k2 := Or.inr ⟨rfl, rfl, by omega⟩
    obtain ⟨j1, j2, j3, j4, j5, j6, j7, j8, j9⟩ := id hK
    have hN := j1.2.2.1
    apply xr_m_codes_0
    rw [if_pos j5]
    refine r_symbol (d := d + 1) ar hf1 htb.1 htb.2.1 j1 j9 j2 j3 j4 j5 (fun v x1 y1 v0 v1 vx vx1 m1 f1' e39 e40 => ?_) (fun v x1 y1 m1 f1' z0 z1 e40 => ?_)
    · have eS : y_S f1 n1 I (8 * N) x = (0, v, x1) := y1
      have e1 : (y_S f1 n1 I (8 * N) x).1 ≠ 1 := by rw [eS]; show ¬ (0 : Int) = 1; decide
      have e2 : (y_S f1 n1 I (8 * N) x).2.1 = v := by rw [eS]
      have e3 : (y_S f1 n1 I (8 * N) x).2.2 = x1 := by rw [eS]
      have K1 := hK.fr f1' e39 (by omega) vx1 e40
      have tb1 := htb.ofr f1'.of
      rw [if_pos e40]
      by_cases q1 : v = 256
      · rw [if_pos q1]
        rw [cod_e e1 (by rw [e2]; exact q1), e3] at h1
        exact h1 _ _ rfl hby m1 f1'.of K1
      · rw [if_neg q1]
        by_cases q2 : v < 256
        · rw [if_pos q2]
          refine r_emit (d := d + 2) K1 (fun z m2 f2' K2 => ?_) (fun z m2 f2' b2 => ?_)
          · rw [cod_w e1 (by rw [e2]; exact q2) z, e2, e3] at h1 h0
            have el := t_len o (w_8 v)
            exact ih x1 _ m2 (by omega) (tb1.ofr f2') K2 hby.app (fun x' o' y2 y3 m3 f3' => h1 x' o' y2 y3 m3 (f1'.of.tr (f2'.tr f3'))) (fun y2 m3 f3' => h0 y2 m3 (f1'.of.tr (f2'.tr f3')))
          · rw [cod_w0 e1 (by rw [e2]; exact q2) z] at h0
            exact r_codes_b (by omega) (h0 rfl m2 (f1'.of.tr f2') b2)
        · rw [if_neg q2]
          by_cases q3 : 285 < v
          · rw [if_pos q3]
            rw [cod_b e1 (by rw [e2]; exact q3)] at h0
            exact h0 rfl _ (r_br f1'.of) w_up_eq
          · rw [if_neg q3]
            have er1 := cod_r1 (I := I) (M := 8 * N) (S2 := y_S f2 k2 I (8 * N)) (k := k) (o := o) e1 (by rw [e2]; omega) (by rw [e2]; omega)
            have er0 := cod_r0 (I := I) (M := 8 * N) (S2 := y_S f2 k2 I (8 * N)) (k := k) (o := o) e1 (by rw [e2]; omega) (by rw [e2]; omega)
            rw [e2, e3] at er1 er0
            obtain ⟨w, hw⟩ : ∃ w, w = v - 257 := ⟨_, rfl⟩
            rw [← hw] at er1 er0
            obtain ⟨g1, g2, g3, g4, g5, g6⟩ := y_tl (m := m1) (s := w) ⟨by omega, by omega⟩
            rw [w_32_id (x := v - 257) (by omega) (by omega), ← hw]
            refine sp_m_lengthOf ?_
            refine sp_m_extraOf ?_
            rw [g1, g2]
            have hV := y_V_r I x1 (y_lx w)
            have hV5 := y_V_le (I := I) x1 (y_lx w) (b := 5) g6
            have p5 : ((2 ^ 5 : Nat) : Int) = 32 := rfl
            have p13 : ((2 ^ 13 : Nat) : Int) = 8192 := rfl
            refine r_bits (d := d + 2) (y_lx w) (by omega) K1.1 K1.2.2.2.2.2.2.2.2 e39 (by omega) vx1 (fun w3 => ?_) (fun w3 => ?_)
            · have f3 : y_rfr m1 (w_up m1 428 39 (x1 + y_lx w)) := fun i j q => by unfold w_up; rw [if_neg (by omega)]
              have K2 := K1.fr f3 w_up_eq (by omega) w3 (by rw [w_up_nb (by decide)]; exact e40)
              have tb2 := tb1.ofr f3.of
              refine r_symbol (d := d + 1) ar2 hf2 tb2.2.2.1 tb2.2.2.2 K2.1 K2.2.2.2.2.2.2.2.2 w_up_eq (by omega) w3 (by rw [w_up_nb (by decide)]; exact e40) (fun t x2 y2 t0 t1 tx tx1 m4 f4' e394 e404 => ?_) (fun t x2 y2 m4 f4' z0 z1 e404 => ?_)
              · have eS2 : y_S f2 k2 I (8 * N) (x1 + y_lx w) = (0, t, x2) := y2
                have K4 := K2.fr f4' e394 (by omega) tx1 e404
                rw [if_pos e404, if_neg (by omega)]
                obtain ⟨s1, s2, s3, s4, s5, s6⟩ := y_td (m := m4) (s := t) ⟨t0, by omega⟩
                refine sp_m_distanceOf ?_
                refine sp_m_farExtra ?_
                rw [s1, s2]
                have hV2 := y_V_r I x2 (y_dx t)
                have hV13 := y_V_le (I := I) x2 (y_dx t) (b := 13) s6
                refine r_bits (d := d + 2) (y_dx t) (by omega) K4.1 K4.2.2.2.2.2.2.2.2 e394 (by omega) tx1 (fun w5 => ?_) (fun w5 => ?_)
                · have f5 : y_rfr m4 (w_up m4 428 39 (x2 + y_dx t)) := fun i j q => by unfold w_up; rw [if_neg (by omega)]
                  have K5 := K4.fr f5 w_up_eq (by omega) w5 (by rw [w_up_nb (by decide)]; exact e404)
                  have fr5 := (f1'.of.tr f3.of).tr (f4'.of.tr f5.of)
                  rw [w_up_nb (by decide), if_pos e404, w_up_nb (by decide), K4.2.2.2.2.2.1, w_32_id (x := y_db t + y_V I x2 (y_dx t)) (by omega) (by omega)]
                  have row : y_row I (8 * N) (y_S f2 k2 I (8 * N)) w x1 o = if (o.length : Int) < y_db t + y_V I x2 (y_dx t) then (1, x1, o) else if (y_cpy (y_db t + y_V I x2 (y_dx t)) (y_lb w + y_V I x1 (y_lx w)).toNat o).1 = 1 then (1, x1, o) else (0, x2 + y_dx t, (y_cpy (y_db t + y_V I x2 (y_dx t)) (y_lb w + y_V I x1 (y_lx w)).toNat o).2) := by
                    unfold y_row
                    rw [if_neg (by omega), eS2, if_neg (by show ¬ (0 : Int) = 1; decide)]
                    simp only
                    rw [if_neg (by omega), if_neg (by omega)]
                  by_cases z : (o.length : Int) < y_db t + y_V I x2 (y_dx t)
                  · rw [if_pos z] at row ⊢
                    rw [er1 (by rw [row])] at h0
                    exact h0 rfl _ (r_br fr5) w_up_eq
                  · rw [if_neg z] at row ⊢
                    rw [w_32_id (x := y_lb w + y_V I x1 (y_lx w)) (by omega) (by omega)]
                    refine r_codes_157 (d := d + 2) ⟨by omega, by omega⟩ (by omega) (y_lb w + y_V I x1 (y_lx w)).toNat 0 _ o (by decide) (by omega) (by omega) hby K5 (fun o' y3 y4 m6 f6' K6 => ?_) (fun o' y3 m6 f6' b6 => ?_)
                    · have lc := y_cpy_r (y_db t + y_V I x2 (y_dx t)) (y_lb w + y_V I x1 (y_lx w)).toNat o
                      rw [y3] at row lc
                      rw [if_neg (by show ¬ (0 : Int) = 1; decide)] at row
                      have lc2 : o'.length = o.length + (y_lb w + y_V I x1 (y_lx w)).toNat := by
                        rcases lc with lc | lc
                        · exact lc.2
                        · exact absurd lc (by show ¬ (0 : Int) = 1; decide)
                      rw [er0 (by rw [row]; show ¬ (0 : Int) = 1; decide), row] at h1 h0
                      exact ih _ o' m6 (by omega) ((tb2.ofr f4'.of).ofr (f5.of.tr f6')) K6 y4 (fun x' o'' y5 y6 m7 f7' => h1 x' o'' y5 y6 m7 (fr5.tr (f6'.tr f7'))) (fun y5 m7 f7' => h0 y5 m7 (fr5.tr (f6'.tr f7')))
                    · rw [y3, if_pos rfl] at row
                      rw [er1 (by rw [row])] at h0
                      exact r_codes_b (by omega) (h0 rfl m6 (fr5.tr f6') b6)
                · rw [w_up_eq, if_neg (by decide)]
                  have row : (y_row I (8 * N) (y_S f2 k2 I (8 * N)) w x1 o).1 = 1 := by
                    unfold y_row
                    rw [if_neg (by omega), eS2, if_neg (by show ¬ (0 : Int) = 1; decide)]
                    simp only
                    rw [if_neg (by omega), if_pos (by omega)]
                  rw [er1 row] at h0
                  refine h0 rfl _ (r_br (((f1'.of.tr f3.of).tr f4'.of).tr (fun i j q q2 => ?_))) w_up_eq
                  unfold w_up
                  rw [if_neg (by omega), if_neg (by omega)]
              · have eS2 : y_S f2 k2 I (8 * N) (x1 + y_lx w) = (1, t, x2) := y2
                rw [if_neg (by omega)]
                have row : (y_row I (8 * N) (y_S f2 k2 I (8 * N)) w x1 o).1 = 1 := by
                  unfold y_row
                  rw [if_neg (by omega), eS2, if_pos rfl]
                rw [er1 row] at h0
                exact h0 rfl _ (r_br ((f1'.of.tr f3.of).tr f4'.of)) w_up_eq
            · have row : (y_row I (8 * N) (y_S f2 k2 I (8 * N)) w x1 o).1 = 1 := by
                unfold y_row
                rw [if_pos (by omega)]
              rw [er1 row] at h0
              have f3 : y_rfr m1 (w_up (w_up m1 428 39 (8 * N)) 428 40 1) := fun i j q => by unfold w_up; rw [if_neg (by omega), if_neg (by omega)]
              refine r_symbol_any (d := d + 1) (N := N) ar2 (K1.1.fr f3) (fun j => by rw [f3 _ _ (by omega)]; exact K1.2.2.2.2.2.2.2.2 j) (by rw [w_up_nb (by decide), w_up_eq]) (fun m4 f4' e394 e404 => ?_)
              rw [if_neg (by omega)]
              exact h0 rfl _ (r_br ((f1'.of.tr f3.of).tr f4'.of)) w_up_eq
    · have eS : y_S f1 n1 I (8 * N) x = (1, v, x1) := y1
      rw [cod_f (by rw [eS])] at h0
      rw [if_neg (by omega)]
      exact h0 rfl m1 f1'.of e40
end YD
