/-! ===== decoded bytes: literals and rows: what they are, both sides ===== -/
/-- as many bytes as may be -/
def y_fl (o : List Int) : Prop := (8000 : Int) ≤ o.length
noncomputable def y_lb (s : Int) : Int := w_LENGTHS.getD s.toNat 0
noncomputable def y_lx (s : Int) : Nat := (w_LENGTH_BITS.getD s.toNat 0).toNat
noncomputable def y_db (s : Int) : Int := w_DISTANCES.getD s.toNat 0
noncomputable def y_dx (s : Int) : Nat := (w_DISTANCE_BITS.getD s.toNat 0).toNat
/-- k bytes from so far back -/
noncomputable def y_cpy (b : Int) : Nat → List Int → Int × List Int
  | 0, o => (0, o)
  | k + 1, o => by classical exact (if y_fl o then (1, o) else y_cpy b k (o ++ [o.getD ((o.length : Int) - b).toNat 0]))
/-- a row: 1 is wrong; where; the bytes -/
noncomputable def y_row (I : Int → Int) (M : Int) (S2 : Int → Int × Int × Int) (v x : Int) (o : List Int) : Int × Int × List Int :=
  if M < x + y_lx v then (1, x, o)
  else if (S2 (x + y_lx v)).1 = 1 then (1, x, o)
  else if 29 < (S2 (x + y_lx v)).2.1 then (1, x, o)
  else if M < (S2 (x + y_lx v)).2.2 + y_dx (S2 (x + y_lx v)).2.1 then (1, x, o)
  else if (o.length : Int) < y_db (S2 (x + y_lx v)).2.1 + y_V I (S2 (x + y_lx v)).2.2 (y_dx (S2 (x + y_lx v)).2.1) then (1, x, o)
  else if (y_cpy (y_db (S2 (x + y_lx v)).2.1 + y_V I (S2 (x + y_lx v)).2.2 (y_dx (S2 (x + y_lx v)).2.1)) (y_lb v + y_V I x (y_lx v)).toNat o).1 = 1 then (1, x, o)
  else (0, (S2 (x + y_lx v)).2.2 + y_dx (S2 (x + y_lx v)).2.1, (y_cpy (y_db (S2 (x + y_lx v)).2.1 + y_V I (S2 (x + y_lx v)).2.2 (y_dx (S2 (x + y_lx v)).2.1)) (y_lb v + y_V I x (y_lx v)).toNat o).2)
noncomputable def y_cod (I : Int → Int) (M : Int) (S1 S2 : Int → Int × Int × Int) : Nat → Int → List Int → Int × Int × List Int
  | 0, x, o => (1, x, o)
  | k + 1, x, o => by
    classical exact (if (S1 x).1 = 1 then (1, x, o)
    else if (S1 x).2.1 = 256 then (0, (S1 x).2.2, o)
    else if (S1 x).2.1 < 256 then (if y_fl o then (1, x, o) else y_cod I M S1 S2 k (S1 x).2.2 (o ++ [w_8 (S1 x).2.1]))
    else if 285 < (S1 x).2.1 then (1, x, o)
    else if (y_row I M S2 ((S1 x).2.1 - 257) (S1 x).2.2 o).1 = 1 then (1, x, o)
    else y_cod I M S1 S2 k (y_row I M S2 ((S1 x).2.1 - 257) (S1 x).2.2 o).2.1 (y_row I M S2 ((S1 x).2.1 - 257) (S1 x).2.2 o).2.2)
theorem y_cpy_p {b : Int} {k : Nat} {o : List Int} (z : y_fl o) : y_cpy b (k + 1) o = (1, o) := if_pos z
theorem y_cpy_q {b : Int} {k : Nat} {o : List Int} (z : ¬ y_fl o) : y_cpy b (k + 1) o = y_cpy b k (o ++ [o.getD ((o.length : Int) - b).toNat 0]) := if_neg z
theorem y_cpy_r (b : Int) : ∀ (k : Nat) (o : List Int), ((y_cpy b k o).1 = 0 ∧ (y_cpy b k o).2.length = o.length + k) ∨ (y_cpy b k o).1 = 1 := by
  intro k
  induction k with
  | zero => intro o; exact Or.inl ⟨rfl, rfl⟩
  | succ k ih =>
    intro o
    unfold y_cpy
    split
    · exact Or.inr rfl
    · rcases ih (o ++ [o.getD ((o.length : Int) - b).toNat 0]) with ⟨h1, h2⟩ | h
      · refine Or.inl ⟨h1, ?_⟩
        rw [h2, List.length_append]
        show o.length + 1 + k = _
        omega
      · exact Or.inr h
theorem y_tab1 : ∀ s : Fin 29, f_m_lengthOf (fun _ _ => 0) s.val = y_lb s.val ∧ f_m_extraOf (fun _ _ => 0) s.val = y_lx s.val ∧ w_LENGTH_BITS.getD s.val 0 = y_lx s.val ∧ 3 ≤ y_lb s.val ∧ y_lb s.val ≤ 258 ∧ y_lx s.val ≤ 5 := by decide +kernel
theorem y_tab2 : ∀ s : Fin 30, f_m_distanceOf (fun _ _ => 0) s.val = y_db s.val ∧ f_m_farExtra (fun _ _ => 0) s.val = y_dx s.val ∧ w_DISTANCE_BITS.getD s.val 0 = y_dx s.val ∧ 1 ≤ y_db s.val ∧ y_db s.val ≤ 24577 ∧ y_dx s.val ≤ 13 := by decide +kernel
theorem y_tl {m : w_M} {s : Int} (h : 0 ≤ s ∧ s < 29) : f_m_lengthOf m s = y_lb s ∧ f_m_extraOf m s = y_lx s ∧ w_LENGTH_BITS.getD s.toNat 0 = y_lx s ∧ 3 ≤ y_lb s ∧ y_lb s ≤ 258 ∧ y_lx s ≤ 5 := by
  have := y_tab1 ⟨s.toNat, by omega⟩
  have e : ((s.toNat : Nat) : Int) = s := by omega
  simp only [e] at this
  exact this
theorem y_td {m : w_M} {s : Int} (h : 0 ≤ s ∧ s < 30) : f_m_distanceOf m s = y_db s ∧ f_m_farExtra m s = y_dx s ∧ w_DISTANCE_BITS.getD s.toNat 0 = y_dx s ∧ 1 ≤ y_db s ∧ y_db s ≤ 24577 ∧ y_dx s ≤ 13 := by
  have := y_tab2 ⟨s.toNat, by omega⟩
  have e : ((s.toNat : Nat) : Int) = s := by omega
  simp only [e] at this
  exact this
/-- the class decodes: at bit x, o is written -/
def y_J (m : w_M) (A base N : Int) (I : Int → Int) (O x : Int) (o : List Int) : Prop := y_in m A base N I ∧ (∃ h, y_at m base I x h ∧ h ≤ 7 ∧ x + h ≤ 8 * N) ∧ m 379 9 = O ∧ (O = 387 ∨ O = 388) ∧ A ≠ O ∧ m 379 10 = o.length ∧ (o.length : Int) ≤ 8000 ∧ ∀ i : Nat, i < o.length → m O i = o.getD i 0
/-- the reference -/
def y_K (n : w_M) (N : Int) (I : Int → Int) (x : Int) (o : List Int) : Prop := y_rin n N I ∧ n 428 39 = x ∧ 0 ≤ x ∧ x ≤ 8 * N ∧ n 428 40 = 0 ∧ n 428 38 = o.length ∧ (o.length : Int) ≤ 8000 ∧ (∀ i : Nat, i < o.length → n 443 i = o.getD i 0) ∧ ∀ j, -128 ≤ n 442 j ∧ n 442 j < 128
/-- what else has changed: nothing but the decoder's own -/
def y_cf (O : Int) (m m' : w_M) : Prop := ∀ i j : Int, ¬ (i = 379 ∧ 7 ≤ j ∧ j ≠ 8 ∧ j ≠ 9) → ¬ (380 ≤ i ∧ i ≤ 385) → i ≠ O → m' i j = m i j
def y_mf (n n' : w_M) : Prop := ∀ i j : Int, ¬ (i = 428 ∧ (j = 38 ∨ j = 39 ∨ j = 40)) → ¬ (443 ≤ i ∧ i ≤ 450) → n' i j = n i j
/-- only bits and bytes -/
def y_of (O : Int) (m m' : w_M) : Prop := ∀ i j : Int, ¬ (i = 379 ∧ (j = 7 ∨ j = 10 ∨ j = 13 ∨ j = 14)) → i ≠ O → m' i j = m i j
def y_ofr (n n' : w_M) : Prop := ∀ i j : Int, ¬ (i = 428 ∧ (j = 38 ∨ j = 39 ∨ j = 40)) → i ≠ 443 → n' i j = n i j
section YI
variable {d : Nat} {m m' m2 n n' n2 : w_M} {Q : Int → w_M → Prop} {I : Int → Int} {A base N O x c : Int} {o : List Int}
theorem y_of.rf : y_of O m m := fun _ _ _ _ => rfl
theorem y_of.tr (h : y_of O m m') (h2 : y_of O m' m2) : y_of O m m2 := fun a b q q2 => (h2 a b q q2).trans (h a b q q2)
theorem y_ofr.rf : y_ofr n n := fun _ _ _ _ => rfl
theorem y_ofr.tr (h : y_ofr n n') (h2 : y_ofr n' n2) : y_ofr n n2 := fun a b q q2 => (h2 a b q q2).trans (h a b q q2)
theorem y_fr.of (h : y_fr m m') : y_of O m m' := fun a b q _ => h a b (by omega)
theorem y_rfr.of (h : y_rfr n n') : y_ofr n n' := fun a b q _ => h a b (by omega)
theorem y_of.cf (h : y_of O m m') : y_cf O m m' := fun a b q q2 q3 => h a b (by omega) q3
theorem y_ofr.mf (h : y_ofr n n') : y_mf n n' := fun a b q q2 => h a b q (by omega)
theorem y_cf.rf : y_cf O m m := fun _ _ _ _ _ => rfl
theorem y_cf.tr (h : y_cf O m m') (h2 : y_cf O m' m2) : y_cf O m m2 := fun a b q q2 q3 => (h2 a b q q2 q3).trans (h a b q q2 q3)
theorem y_mf.rf : y_mf n n := fun _ _ _ _ => rfl
theorem y_mf.tr (h : y_mf n n') (h2 : y_mf n' n2) : y_mf n n2 := fun a b q q2 => (h2 a b q q2).trans (h a b q q2)
theorem y_oO (h : O = 387 ∨ O = 388) : w_isA 1 O ∧ w_isR O ∧ w_ln O = 8000 ∧ w_wr (w_G0 sC) O.toNat ∧ 0 ≤ O ∧ O ≠ 379 ∧ O < 428 := by
  rcases h with rfl | rfl
  · exact ⟨⟨8000, s0_387⟩, ⟨1, 8000, s0_387, by decide, by decide⟩, w_ln_eq s0_387, w_EC (by decide), by decide, by decide, by decide⟩
  · exact ⟨⟨8000, s0_388⟩, ⟨1, 8000, s0_388, by decide, by decide⟩, w_ln_eq s0_388, w_EC (by decide), by decide, by decide, by decide⟩
/-- bits were read -/
theorem y_J.fr (h : y_J m A base N I O x o) (hf : y_fr m m') {x' : Int} {h' : Nat} (hat : y_at m' base I x' h') (h7 : h' ≤ 7) (hx : x' + h' ≤ 8 * N) : y_J m' A base N I O x' o := by
  obtain ⟨a1, a2, a3, a4, a5, a6, a7, a8⟩ := h
  have hO := y_oO a4
  exact ⟨a1.fr hf, ⟨h', hat, h7, hx⟩, by rw [hf _ _ (by omega)]; exact a3, a4, a5, by rw [hf _ _ (by omega)]; exact a6, a7, fun i hi => by rw [hf _ _ (by omega)]; exact a8 i hi⟩
theorem y_K.fr (h : y_K n N I x o) (hf : y_rfr n n') {x' : Int} (h39 : n' 428 39 = x') (h0 : 0 ≤ x') (h1 : x' ≤ 8 * N) (h40 : n' 428 40 = 0) : y_K n' N I x' o := by
  obtain ⟨a1, a2, a3, a4, a5, a6, a7, a8, a9⟩ := h
  exact ⟨a1.fr hf, h39, h0, h1, h40, by rw [hf _ _ (by omega)]; exact a6, a7, fun i hi => by rw [hf _ _ (by omega)]; exact a8 i hi, fun j => by rw [hf _ _ (by omega)]; exact a9 j⟩
theorem sp_in_write (h : y_J m A base N I O x o) (h1 : ¬ y_fl o → ∀ m', y_of O m m' → y_J m' A base N I O x (o ++ [w_8 c]) → Q 1 m') (h0 : y_fl o → Q 0 m) : xc_in_write (d + 1) c m Q := by
  obtain ⟨a1, a2, a3, a4, a5, a6, a7, a8⟩ := h
  obtain ⟨o1, o2, o3, o4, o5, o6, o7⟩ := y_oO a4
  obtain ⟨h, b1, b2, b3⟩ := a2
  have hin := a1
  obtain ⟨i1, i2, i3, i4, i5, i6, i7, i8, i9, j1, j2⟩ := a1
  obtain ⟨K, hK⟩ : ∃ K : Int, K = o.length := ⟨_, rfl⟩
  have e10 : m 379 10 = K := a6.trans hK.symm
  have flK : y_fl o ↔ 8000 ≤ K := by rw [hK]; exact Iff.rfl
  rw [← hK] at a7
  apply xr_in_write
  rw [if_neg (by omega), a3, e10, w_8_8]
  rcases Int.lt_or_le K 8000 with z | z
  · rw [if_pos z]
    refine ⟨o5, o2, ?_⟩
    rw [o3, if_pos z]
    refine ⟨o5, o1, o4, by omega, ?_⟩
    rw [w_up_ne (by omega), e10, w_32_id (by omega) (by omega)]
    have el := t_len o (w_8 c)
    have e : ∀ i j : Int, ¬ (i = 379 ∧ j = 10) → i ≠ O → w_up (w_up m O K (w_8 c)) 379 10 (K + 1) i j = m i j := by
      intro i j q q2
      unfold w_up
      rw [if_neg q, if_neg (fun w => q2 w.1)]
    refine h1 (fun w => by have := flK.1 w; omega) _ (fun i j q q2 => e i j (by omega) q2) ⟨⟨i1, i2, i3, i4, i5, i6, i7, i8, by rw [e _ _ (by omega) (by omega)]; exact i9, by rw [e _ _ (by omega) (by omega)]; exact j1, fun i q1 q2 => by rw [e _ _ (by omega) a5]; exact j2 i q1 q2⟩, ⟨h, ?_, b2, b3⟩, by rw [e _ _ (by omega) (by omega)]; exact a3, a4, a5, by rw [w_up_eq, el, hK], by omega, fun i hi => ?_⟩
    · obtain ⟨c1, c2, c3, c4, c5⟩ := b1
      exact ⟨by rw [e _ _ (by omega) (by omega)]; exact c1, c2, by rw [e _ _ (by omega) (by omega)]; exact c3, by rw [e _ _ (by omega) (by omega)]; exact c4, c5⟩
    · rw [w_up_ne (by omega)]
      rcases t_app o (w_8 c) i hi with ⟨y1, y2⟩ | ⟨y1, y2⟩
      · rw [y2, w_up_nb (by omega)]; exact a8 i y1
      · rw [y2, y1, hK, w_up_eq]
  · rw [if_neg (by omega)]
    exact h0 (flK.2 z)
theorem r_emit (h : y_K n N I x o) (h1 : ¬ y_fl o → ∀ n', y_ofr n n' → y_K n' N I x (o ++ [w_8 c]) → Q 0 n') (h0 : y_fl o → ∀ n', y_ofr n n' → n' 428 40 = 1 → Q 0 n') : xc_m_emit (d + 1) c n Q := by
  obtain ⟨a1, a2, a3, a4, a5, a6, a7, a8, a9⟩ := h
  obtain ⟨b1, b2, b3, b4⟩ := a1
  apply xr_m_emit
  rw [a6, w_8_8]
  by_cases z : y_fl o
  · have z' : (8000 : Int) ≤ o.length := z
    rw [if_pos (by omega)]
    refine h0 z _ (fun i j q q2 => ?_) w_up_eq
    unfold w_up
    rw [if_neg (by omega)]
  · have z' : ¬ (8000 : Int) ≤ o.length := z
    rw [if_neg (by omega), w_32_id (by omega) (by omega)]
    refine ⟨by omega, ?_⟩
    have el := t_len o (w_8 c)
    have e : ∀ i j : Int, ¬ (i = 428 ∧ j = 38) → i ≠ 443 → w_up (w_up n 443 o.length (w_8 c)) 428 38 ((o.length : Int) + 1) i j = n i j := by
      intro i j q q2
      unfold w_up
      rw [if_neg q, if_neg (fun w => q2 w.1)]
    refine h1 z _ (fun i j q q2 => e i j (by omega) q2) ⟨⟨by rw [e _ _ (by omega) (by omega)]; exact b1, b2, b3, fun i q1 q2 => by rw [e _ _ (by omega) (by omega)]; exact b4 i q1 q2⟩, by rw [e _ _ (by omega) (by omega)]; exact a2, a3, a4, by rw [e _ _ (by omega) (by omega)]; exact a5, by rw [w_up_eq, el], by omega, fun i hi => ?_, fun j => by rw [e _ _ (by omega) (by omega)]; exact a9 j⟩
    rw [w_up_ne (by decide)]
    rcases t_app o (w_8 c) i hi with ⟨y1, y2⟩ | ⟨y1, y2⟩
    · rw [y2, w_up_nb (by omega)]; exact a8 i y1
    · rw [y2, y1, w_up_eq]
/-- bytes of what was decoded are bytes -/
def y_by (o : List Int) : Prop := ∀ i : Nat, i < o.length → w_8 (o.getD i 0) = o.getD i 0
theorem y_by.app (h : y_by o) : y_by (o ++ [w_8 c]) := by
  intro i hi
  rcases t_app o (w_8 c) i hi with ⟨y1, y2⟩ | ⟨y1, y2⟩
  · rw [y2]; exact h i y1
  · rw [y2, w_8_8]
theorem sp_in_row_120 {b len : Int} (hb : 1 ≤ b ∧ b ≤ 40000) (hl : len ≤ 1000) : ∀ (k : Nat) (i : Int) (m : w_M) (o : List Int), 0 ≤ i → i + k = len → b ≤ o.length → y_by o → y_J m A base N I O x o →
    (∀ o', y_cpy b k o = (0, o') → y_by o' → ∀ m', y_of O m m' → y_J m' A base N I O x o' → Q 1 m') → (∀ o', y_cpy b k o = (1, o') → ∀ m', y_of O m m' → Q 0 m') → xp_in_row_120 (d + 1) len b i m Q := by
  intro k
  induction k with
  | zero =>
    intro i m o i0 i1 hbo hby hJ h1 h0
    apply xr_in_row_120
    rw [if_neg (by omega)]
    exact h1 o rfl hby m y_of.rf hJ
  | succ k ih =>
    intro i m o i0 i1 hbo hby hJ h1 h0
    have hJ' := hJ
    obtain ⟨a1, a2, a3, a4, a5, a6, a7, a8⟩ := hJ
    obtain ⟨o1, o2, o3, o4, o5, o6, o7⟩ := y_oO a4
    obtain ⟨nb, hnb⟩ : ∃ nb, nb = o.getD ((o.length : Int) - b).toNat 0 := ⟨_, rfl⟩
    have e8 : m O ((o.length : Int) - b) = nb := by
      have := a8 ((o.length : Int) - b).toNat (by omega)
      rw [show ((((o.length : Int) - b).toNat : Nat) : Int) = (o.length : Int) - b by omega] at this
      rw [this, hnb]
    have w8 : w_8 nb = nb := by rw [hnb]; exact hby _ (by omega)
    apply xr_in_row_120
    rw [if_pos (by omega), a6, w_32_id (x := (o.length : Int) - b) (by omega) (by omega), if_neg (by omega), a3]
    refine ⟨o5, o2, ?_⟩
    rw [o3, if_pos (by omega), e8, w_32_id (x := i + 1) (by omega) (by omega)]
    refine ⟨o5, o1, by omega, ?_⟩
    refine sp_in_write hJ' (fun z m' f1 j1 => ?_) (fun z => ?_)
    · rw [if_neg (by decide)]
      have el := t_len o nb
      have ec : y_cpy b (k + 1) o = y_cpy b k (o ++ [nb]) := by
        rw [y_cpy_q z, ← hnb]
      have hby2 := hby.app (c := nb)
      rw [w8] at j1 hby2
      exact ih (i + 1) m' _ (by omega) (by omega) (by omega) hby2 j1 (fun o' y1 y2 m2 f2 => h1 o' (ec.trans y1) y2 m2 (f1.tr f2)) (fun o' y1 m2 f2 => h0 o' (ec.trans y1) m2 (f1.tr f2))
    · rw [if_pos rfl]
      have ec : y_cpy b (k + 1) o = (1, o) := y_cpy_p z
      exact h0 o ec m y_of.rf
theorem r_codes_157 {b len : Int} (hb : 1 ≤ b ∧ b ≤ 40000) (hl : len ≤ 1000) : ∀ (k : Nat) (i : Int) (n : w_M) (o : List Int), 0 ≤ i → i + k = len → b ≤ o.length → y_by o → y_K n N I x o →
    (∀ o', y_cpy b k o = (0, o') → y_by o' → ∀ n', y_ofr n n' → y_K n' N I x o' → xp_m_codes_0 (d + 1) n' Q) → (∀ o', y_cpy b k o = (1, o') → ∀ n', y_ofr n n' → n' 428 40 = 1 → xp_m_codes_0 (d + 1) n' Q) → xp_m_codes_157 (d + 1) len b i n Q := by
  intro k
  induction k with
  | zero =>
    intro i n o i0 i1 hbo hby hK h1 h0
    apply xr_m_codes_157
    rw [if_neg (by omega)]
    exact h1 o rfl hby n y_ofr.rf hK
  | succ k ih =>
    intro i n o i0 i1 hbo hby hK h1 h0
    have hK' := hK
    obtain ⟨a1, a2, a3, a4, a5, a6, a7, a8, a9⟩ := hK
    obtain ⟨nb, hnb⟩ : ∃ nb, nb = o.getD ((o.length : Int) - b).toNat 0 := ⟨_, rfl⟩
    have e8 : n 443 ((o.length : Int) - b) = nb := by
      have := a8 ((o.length : Int) - b).toNat (by omega)
      rw [show ((((o.length : Int) - b).toNat : Nat) : Int) = (o.length : Int) - b by omega] at this
      rw [this, hnb]
    have w8 : w_8 nb = nb := by rw [hnb]; exact hby _ (by omega)
    apply xr_m_codes_157
    rw [if_pos (by omega), if_pos a5, a6, w_32_id (x := (o.length : Int) - b) (by omega) (by omega), e8, w_32_id (x := i + 1) (by omega) (by omega)]
    refine ⟨by omega, ?_⟩
    refine r_emit hK' (fun z n' f1 j1 => ?_) (fun z n' f1 j1 => ?_)
    · have el := t_len o nb
      have ec : y_cpy b (k + 1) o = y_cpy b k (o ++ [nb]) := by
        rw [y_cpy_q z, ← hnb]
      have hby2 := hby.app (c := nb)
      rw [w8] at j1 hby2
      exact ih (i + 1) n' _ (by omega) (by omega) (by omega) hby2 j1 (fun o' y1 y2 m2 f2 => h1 o' (ec.trans y1) y2 m2 (f1.tr f2)) (fun o' y1 m2 f2 => h0 o' (ec.trans y1) m2 (f1.tr f2))
    · have ec : y_cpy b (k + 1) o = (1, o) := by
        unfold y_cpy
        rw [if_pos z]
      have go : xp_m_codes_0 (d + 1) n' Q := h0 o ec n' f1 j1
      apply xr_m_codes_157
      split
      · rw [if_neg (by omega)]
        exact go
      · exact go
end YI
