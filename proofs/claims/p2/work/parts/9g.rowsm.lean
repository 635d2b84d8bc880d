/-! ===== sections: rows of a stream, the reference ===== -/
/-- decoded bytes at hand in the reference; the widths -/
def e_M (n : w_M) (o : List Int) (w0 w1 w2 : Int) : Prop := (0 ≤ n 428 34 ∧ n 428 34 ≤ 49000) ∧ (o.length : Int) ≤ 8000 ∧ (∀ j : Nat, j < o.length → n 441 (n 428 34 + j) = o.getD j 0) ∧ n 467 0 = w0 ∧ n 467 1 = w1 ∧ n 467 2 = w2 ∧ (0 ≤ w0 ∧ w0 ≤ 4) ∧ (0 ≤ w1 ∧ w1 ≤ 4) ∧ (0 ≤ w2 ∧ w2 ≤ 4)
/-- what they change -/
def e_mh (n n' : w_M) : Prop := ∀ i j : Int, ¬ (i = 428 ∧ (j = 27 ∨ j = 28 ∨ j = 75)) → ¬ (464 ≤ i ∧ i ≤ 467) → n' i j = n i j
section EZ
variable {d : Nat} {g : s_g} {m m' m2 n n' n2 : w_M} {Q : Int → w_M → Prop} {W : Int → Int} {L p p' q f a b R w w0 w1 w2 x y i ww ix : Int} {k : Nat} {o : List Int} {l : List Int}
theorem e_mh.rf : e_mh n n := fun _ _ _ _ => rfl
theorem e_mh.tr (h : e_mh n n') (h2 : e_mh n' n2) : e_mh n n2 := fun a b q1 q2 => (h2 a b q1 q2).trans (h a b q1 q2)
theorem m_fl_emh {c v : Int} : e_mh n (m_fl n c v) := fun i j q1 q2 => m_fl_o (by omega)
theorem w_lor_8 {a b : Int} (ha : 0 ≤ a) (ha2 : a < 4294967296) (hb : 0 ≤ b) (hb2 : b < 256) : w_lor (w_lshl a 8) b = a * 256 + b := by
  rw [w_lshl_v (by decide) (by decide)]
  have e : a * ((2 ^ (8 : Int).toNat : Nat) : Int) = a * 256 := rfl
  rw [e, w_64_id (by omega) (by omega)]
  have := w_lor_apart (a := a) (b := b) 8 (by omega) ha (by show a * 256 < _; omega) hb (by show b < 256; omega)
  have e2 : a * ((2 ^ 8 : Nat) : Int) = a * 256 := rfl
  rw [e2] at this
  rw [this]
  exact w_64_id (by omega) (by omega)
theorem e_M.fr (h : e_M n o w0 w1 w2) (h34 : n' 428 34 = n 428 34) (h41 : ∀ j, n' 441 j = n 441 j) (h67 : ∀ j, n' 467 j = n 467 j) : e_M n' o w0 w1 w2 := by
  unfold e_M at h ⊢
  rw [h34, h67, h67, h67]
  simp only [h41]
  exact h
theorem r_unsigned (h : e_M n o w0 w1 w2) {K : Nat} (hK : K ≤ 4) (a0 : 0 ≤ a) (a1 : a + K ≤ o.length) (hQ : Q (e_num o a K) n) : xc_m_unsigned (d + 1) a K n Q := by
  obtain ⟨c1, c2, c3, c4, c5, c6, c7⟩ := h
  apply xr_m_unsigned
  have key : ∀ (j i : Nat), i + j = K → xp_m_unsigned_5 d a K (e_num o a i) (a + i) n Q := by
    intro j
    induction j with
    | zero =>
      intro i hi
      apply xr_m_unsigned_5
      rw [w_32_id (x := a + K) (by omega) (by omega), if_neg (by omega)]
      have e : i = K := by omega
      rw [e]
      exact hQ
    | succ j ih =>
      intro i hi
      have r := e_num_r o a i
      have rn := r.2 (by omega)
      have z := ih (i + 1) (by omega)
      have s : e_num o a (i + 1) = e_num o a i * 256 + o.getD (a + i).toNat 0 % 256 := rfl
      have g : n 441 (n 428 34 + (a + i)) = o.getD (a + i).toNat 0 := by
        have := c3 (a + i).toNat (by omega)
        rw [show (((a + i).toNat : Nat) : Int) = a + i by omega] at this
        exact this
      apply xr_m_unsigned_5
      rw [w_32_id (x := a + K) (by omega) (by omega), if_pos (by omega), w_32_id (x := n 428 34 + (a + i)) (by omega) (by omega), g, w_land_255, w_lor_8 r.1 rn (by omega) (by omega), ← s, w_32_id (x := a + i + 1) (by omega) (by omega)]
      refine ⟨by omega, ?_⟩
      rw [show a + ((i + 1 : Nat) : Int) = a + i + 1 by omega] at z
      exact z
  have := key K 0 (by omega)
  rw [show a + ((0 : Nat) : Int) = a by omega] at this
  exact this
theorem r_pair_436 {x8 : Int} : ∀ (k : Nat) (i a : Int) (n : w_M) (f M : Int), 0 ≤ i → i + k = M → 0 ≤ f → f + M ≤ 200 → e_M n o w0 w1 w2 → n 428 27 = 0 → 0 ≤ a → a ≤ o.length →
    (∀ es e, e_prs o w0 w1 w2 k (f + i) a = some (es, e) → ∀ n', e_mh n n' → n' 428 27 = 0 → (∀ j, n' 467 j = n 467 j) → a ≤ e → e ≤ o.length → e_rT n' = es.foldl e_rt (e_rT n) → xp_m_entries1_319 (d + 2) b o.length ww x8 e 0 n' Q) → (e_prs o w0 w1 w2 k (f + i) a = none → ∀ n', e_mh n n' → n' 428 27 ≠ 0 → Q 0 n') → xp_m_entries1_436 (d + 2) b o.length ww x8 a 0 f M i n Q := by
  intro k
  induction k with
  | zero =>
    intro i a n f M i0 hi f0 fM h h27 a0 a1 H1 H0
    apply xr_m_entries1_436
    rw [if_neg (by omega)]
    exact H1 [] a rfl n e_mh.rf h27 (fun _ => rfl) (Int.le_refl _) a1 rfl
  | succ k ih =>
    intro i a n f M i0 hi f0 fM h h27 a0 a1 H1 H0
    obtain ⟨c1, c2, c3, c4, c5, c6, c7, c8, c9⟩ := id h
    have es : e_prs o w0 w1 w2 (k + 1) (f + i) a = (if (o.length : Int) < a + w0 + w1 + w2 then none else if 2 < (if w0 = 0 then 1 else e_num o a w0.toNat) then none
      else (e_prs o w0 w1 w2 k (f + i + 1) (a + w0 + w1 + w2)).map (fun r => ((f + i, (if w0 = 0 then 1 else e_num o a w0.toNat), e_num o (a + w0) w1.toNat, e_num o (a + w0 + w1) w2.toNat) :: r.1, r.2))) := rfl
    have fail : e_prs o w0 w1 w2 (k + 1) (f + i) a = none → xc_m_fail (d + 2) 3 ww n (fun r1 m1 => Q 0 m1) := by
      intro e
      refine sp_m_fail ?_
      exact H0 e _ m_fl_emh (m_fl_ne h27 (by decide))
    obtain ⟨K, hK⟩ : ∃ K : Int, K = o.length := ⟨_, rfl⟩
    rw [← hK] at es a1
    apply xr_m_entries1_436
    rw [if_pos (by omega), c4, c5, c6, w_32_id (x := a + w0) (by omega) (by omega), w_32_id (x := a + w0 + w1) (by omega) (by omega), w_32_id (x := a + w0 + w1 + w2) (by omega) (by omega), ← hK]
    by_cases q1 : K < a + w0 + w1 + w2
    · rw [if_pos q1] at es ⊢
      exact fail es
    · rw [if_neg q1] at es ⊢
      have W0 : ((w0.toNat : Nat) : Int) = w0 := by omega
      have W1 : ((w1.toNat : Nat) : Int) = w1 := by omega
      have W2 : ((w2.toNat : Nat) : Int) = w2 := by omega
      obtain ⟨A, hA⟩ : ∃ A : Int, A = (if w0 = 0 then 1 else e_num o a w0.toNat) := ⟨_, rfl⟩
      rw [← hA] at es
      have rA : 0 ≤ A := by
        rw [hA]
        split
        · decide
        · exact (e_num_r o a _).1
      have next : xp_m_entries1_494 (d + 2) b o.length ww x8 a 0 f M i A n Q := by
        apply xr_m_entries1_494
        have U1 : ∀ R : Int → w_M → Prop, R (e_num o (a + w0) w1.toNat) n → xc_m_unsigned (d + 2) (a + w0) w1 n R := by
          intro R hR
          have := r_unsigned (d := d + 1) (a := a + w0) (K := w1.toNat) (Q := R) h (by omega) (by omega) (by omega) hR
          rw [W1] at this
          exact this
        have U2 : ∀ R : Int → w_M → Prop, R (e_num o (a + w0 + w1) w2.toNat) n → xc_m_unsigned (d + 2) (a + w0 + w1) w2 n R := by
          intro R hR
          have := r_unsigned (d := d + 1) (a := a + w0 + w1) (K := w2.toNat) (Q := R) h (by omega) (by omega) (by omega) hR
          rw [W2] at this
          exact this
        rw [c4, c5, w_32_id (x := a + w0) (by omega) (by omega)]
        refine U1 _ ?_
        rw [c4, c5, c6, w_32_id (x := a + w0) (by omega) (by omega), w_32_id (x := a + w0 + w1) (by omega) (by omega)]
        refine U2 _ ?_
        clear U1 U2
        obtain ⟨B, hB⟩ : ∃ B : Int, B = e_num o (a + w0) w1.toNat := ⟨_, rfl⟩
        obtain ⟨C, hC⟩ : ∃ C : Int, C = e_num o (a + w0 + w1) w2.toNat := ⟨_, rfl⟩
        rw [← hB, ← hC] at es ⊢
        by_cases q2 : 2 < A
        · rw [if_pos q2] at es ⊢
          exact fail es
        · rw [if_neg q2] at es ⊢
          rw [w_32_id (x := f) (by omega) (by omega), w_32_id (x := f + i) (by omega) (by omega), w_32_id (x := A) (by omega) (by omega)]
          refine r_tell (d := d + 1) (by omega) (by omega) (fun n1 f1 t1 => ?_)
          have M1 : e_M n1 o w0 w1 w2 := h.fr (f1 _ _ (by omega) (by omega)) (fun j => f1 _ _ (by omega) (by omega)) (fun j => f1 _ _ (by omega) (by omega))
          have c1' : e_mh n n1 := fun i' j' z1 z2 => f1 i' j' (by omega) (by omega)
          rw [c4, c5, c6, w_32_id (x := w0 + w1) (by omega) (by omega), w_32_id (x := w0 + w1 + w2) (by omega) (by omega), w_32_id (x := a + (w0 + w1 + w2)) (by omega) (by omega), w_32_id (x := i + 1) (by omega) (by omega), show a + (w0 + w1 + w2) = a + w0 + w1 + w2 by omega]
          have x1 : f + i + 1 = f + (i + 1) := by omega
          refine ih (i + 1) (a + w0 + w1 + w2) n1 f M (by omega) (by omega) f0 fM M1 (by rw [f1 _ _ (by omega) (by omega)]; exact h27) (by omega) (by omega) (fun es1 e' y n' c' g27 g67 le1 le2 T' => ?_) (fun y n' c' g27 => H0 ?_ n' (c1'.tr c') g27)
          · refine H1 ((f + i, A, B, C) :: es1) e' ?_ n' (c1'.tr c') g27 (fun j => by rw [g67]; exact f1 _ _ (by omega) (by omega)) (by omega) le2 ?_
            · rw [es, x1, y]
              rfl
            · rw [T', t1]
              rfl
          · rw [es, x1, y]
            rfl
      by_cases q2 : w0 = 0
      · rw [if_pos q2]
        rw [if_pos q2] at hA
        rw [hA] at next
        rw [hK]
        exact next
      · rw [if_neg q2]
        rw [if_neg q2] at hA
        have R := r_unsigned (d := d + 1) (a := a) (K := w0.toNat) (Q := fun r2 m2 => xp_m_entries1_494 (d + 2) b o.length ww x8 a 0 f M i r2 m2 Q) h (by omega) a0 (by omega) (by rw [← hA]; exact next)
        rw [W0] at R
        rw [hK]
        exact R
theorem r_319_end (h27 : n 428 27 = 0) {x8 l10 : Int} (h10 : l10 = 0) (h8 : x8 < 0) (H1 : a = o.length → Q 0 n) (H0 : a ≠ o.length → Q 0 (m_fl n 3 ww)) : xp_m_entries1_319 (d + 2) b o.length ww x8 a l10 n Q := by
  apply xr_m_entries1_319
  refine r_gd ?_
  rw [if_pos h27, if_neg (by decide), if_pos h10, if_pos h8]
  refine r_gd ?_
  rw [if_pos h27, if_neg (by decide)]
  by_cases q : a = o.length
  · rw [if_pos q]; exact H1 q
  · rw [if_neg q]
    refine sp_m_fail ?_
    exact H0 q
/-- the pairs of an array -/
theorem r_pairs_319 (hst : s_st g m n) (hi : ∀ y, y ∈ l → n 432 y = 2 ∧ 0 ≤ n 433 y ∧ n 433 y ≤ 2147483647) : ∀ (k : Nat) (suf : List Int) (y a : Int) (n1 : w_M), suf.length = 2 * k → (∀ z ∈ suf, z ∈ l) → s_ch n (n 428 15) y suf → e_mh n n1 → e_M n1 o w0 w1 w2 → n1 428 27 = 0 → 0 ≤ a → a ≤ o.length →
    (∀ es e, e_pairs o w0 w1 w2 (e_pl n suf) a = some (es, e) → e = o.length → ∀ n', e_mh n n' → n' 428 27 = 0 → e_rT n' = es.foldl e_rt (e_rT n1) → Q 0 n') → ((∀ es e, e_pairs o w0 w1 w2 (e_pl n suf) a = some (es, e) → e ≠ o.length) → ∀ n', e_mh n n' → n' 428 27 ≠ 0 → Q 0 n') → xp_m_entries1_319 (d + 2) b o.length ww y a 0 n1 Q := by
  intro k
  have hbd := hst.1
  unfold s_bd at hbd
  induction k with
  | zero =>
    intro suf y a n1 hl _ hc hm hM h27 a0 a1 H1 H0
    have e : suf = [] := List.length_eq_zero_iff.mp (by omega)
    subst e
    have hc : y = -1 := hc
    refine r_319_end h27 rfl (by omega) (fun q => H1 [] a rfl q n1 hm h27 rfl) (fun q => H0 (fun es e z => ?_) _ (hm.tr m_fl_emh) (m_fl_ne h27 (by decide)))
    have := (Prod.mk.inj (Option.some.inj z)).2
    omega
  | succ k ih =>
    intro suf y a n1 hl hmem hc hm hM h27 a0 a1 H1 H0
    cases suf with
    | nil => simp at hl
    | cons u suf =>
      cases suf with
      | nil => simp at hl; omega
      | cons v suf =>
        obtain ⟨e1, u0, u1, hc2⟩ := hc
        subst e1
        obtain ⟨e2, v0, v1, hc3⟩ := hc2
        have i1 := hi y (hmem y (List.mem_cons_self ..))
        have i2 := hi v (hmem v (List.mem_cons_of_mem _ (List.mem_cons_self ..)))
        have ep : e_pairs o w0 w1 w2 (e_pl n (y :: v :: suf)) a = if 200 < n 433 y + n 433 v then none else (e_prs o w0 w1 w2 (n 433 v).toNat (n 433 y) a).bind (fun x => (e_pairs o w0 w1 w2 (e_pl n suf) x.2).map (fun y => (x.1 ++ y.1, y.2))) := rfl
        have eq1 : n1 437 y = v := by rw [hm 437 y (by omega) (by omega)]; exact e2
        have eq2 : n1 433 y = n 433 y := hm 433 y (by omega) (by omega)
        have eq3 : n1 433 v = n 433 v := hm 433 v (by omega) (by omega)
        have eq4 : n1 437 v = n 437 v := hm 437 v (by omega) (by omega)
        apply xr_m_entries1_319
        refine r_gd ?_
        rw [if_pos h27, if_neg (by decide), if_pos rfl, if_neg (by omega)]
        apply xr_m_entries1_336
        rw [if_pos rfl]
        refine ⟨by omega, ?_⟩
        rw [if_pos rfl, eq1]
        refine ⟨by omega, by omega, ?_⟩
        apply xr_m_entries1_386
        rw [if_pos rfl, eq1, eq2, eq3, eq4, w_64_id (x := n 433 y + n 433 v) (by omega) (by omega)]
        refine ⟨by omega, by omega, ?_⟩
        by_cases q : 200 < n 433 y + n 433 v
        · rw [if_pos q] at ep ⊢
          refine sp_m_fail ?_
          refine H0 (fun es e z => ?_) _ (hm.tr m_fl_emh) (m_fl_ne h27 (by decide))
          rw [ep] at z
          cases z
        · rw [if_neg q] at ep ⊢
          refine r_pair_436 (d := d) (n 433 v).toNat 0 a n1 (n 433 y) (n 433 v) (by decide) (by omega) i1.2.1 (by omega) hM h27 a0 a1 (fun es e z n2 c2 g27 g67 le1 le2 T2 => ?_) (fun z n2 c2 g27 => ?_)
          · rw [Int.add_zero] at z
            rw [z] at ep
            have M2 : e_M n2 o w0 w1 w2 := hM.fr (c2 _ _ (by omega) (by omega)) (fun j => c2 _ _ (by omega) (by omega)) g67
            refine ih suf (n 437 v) e n2 (by simp at hl; omega) (fun z hz => hmem z (List.mem_cons_of_mem _ (List.mem_cons_of_mem _ hz))) hc3 (hm.tr c2) M2 g27 (by omega) le2 (fun es' e' z' el n3 c3 g3 T3 => ?_) (fun z' n3 c3 g3 => ?_)
            · refine H1 (es ++ es') e' ?_ el n3 c3 g3 (by rw [T3, T2, List.foldl_append])
              rw [ep]
              show (e_pairs o w0 w1 w2 (e_pl n suf) e).map _ = _
              rw [z']
              rfl
            · refine H0 (fun es3 e3 z3 => ?_) n3 c3 g3
              rw [ep] at z3
              obtain ⟨r, hr, hr2⟩ := Option.map_eq_some_iff.mp z3
              have := z' r.1 r.2 hr
              rw [(Prod.mk.inj hr2).2] at this
              exact this
          · rw [Int.add_zero] at z
            rw [z] at ep
            refine H0 (fun es3 e3 z3 => ?_) n2 (hm.tr c2) g27
            rw [ep] at z3
            cases z3
/-- the index is looked at -/
theorem r_242 (hst : s_st g m n) {x8 : Int} (hix : 0 ≤ ix) : ∀ (suf : List Int) (y : Int) (n1 : w_M), (∀ i j : Int, i ≠ 467 → n1 i j = n i j) → s_ch n (n 428 15) y suf → ((∀ z ∈ suf, n 432 z = 2 ∧ 0 ≤ n 433 z) → xp_m_entries1_319 (d + 2) b f ww x8 0 0 n1 Q) → ((¬ ∀ z ∈ suf, n 432 z = 2 ∧ 0 ≤ n 433 z) → Q 0 (m_fl n1 3 ww)) → xp_m_entries1_242 (d + 2) b f ww ix 1 x8 y n1 Q := by
  intro suf
  have hbd := hst.1
  unfold s_bd at hbd
  induction suf with
  | nil =>
    intro y n1 hm hc H1 H0
    have hc : y = -1 := hc
    apply xr_m_entries1_242
    rw [if_pos (by omega), if_neg (by decide), if_neg (by omega)]
    exact H1 (fun z hz => by cases hz)
  | cons u suf ih =>
    intro y n1 hm hc H1 H0
    obtain ⟨e1, u0, u1, hc2⟩ := hc
    subst e1
    have e2 := hm 432 y (by decide)
    have e3 := hm 433 y (by decide)
    have e7 := hm 437 y (by decide)
    have bad : ¬ (n 432 y = 2 ∧ 0 ≤ n 433 y) → ∀ y' : Int, xp_m_entries1_242 (d + 2) b f ww ix 0 x8 y' n1 Q := by
      intro z y'
      have z0 := H0 (fun w => z (w y (List.mem_cons_self ..)))
      apply xr_m_entries1_242
      refine z_ite (fun _ => ?_) (fun _ => ?_)
      · rw [if_pos rfl]
        refine sp_m_fail ?_
        exact z0
      · rw [if_pos rfl, if_pos rfl]
        refine sp_m_fail ?_
        exact z0
    apply xr_m_entries1_242
    rw [if_neg (by omega), if_neg (by decide), e2, e3, e7]
    refine ⟨by omega, ?_⟩
    by_cases q : n 432 y = 2
    · rw [if_pos q]
      refine ⟨by omega, ?_⟩
      by_cases q2 : n 433 y < 0
      · rw [if_pos q2]
        exact ⟨by omega, bad (by omega) _⟩
      · rw [if_neg q2]
        refine ⟨by omega, ih _ n1 hm hc2 (fun z => H1 (fun w hw => ?_)) (fun z => H0 (fun w => z (fun v hv => w v (List.mem_cons_of_mem _ hv))))⟩
        rcases List.mem_cons.mp hw with e | e
        · rw [e]; omega
        · exact z w e
    · rw [if_neg q]
      exact ⟨by omega, bad (fun z => q z.1) _⟩
/-- widths -/
theorem r_81 (hst : s_st g m n) {E : List Int} (hE : E.length = 3) (H1 : e_wd n E → ∀ n', (∀ i j : Int, i ≠ 467 → n' i j = n i j) → (∀ t : Nat, t < 3 → n' 467 t = n 433 (E.getD t 0)) → xp_m_entries1_158 d b f ww ix 1 n' Q) (H0 : ¬ e_wd n E → ∀ n', (∀ i j : Int, i ≠ 467 → n' i j = n i j) → xp_m_entries1_158 d b f ww ix 0 n' Q) :
    ∀ (suf pre : List Int) (y : Int) (n1 : w_M), E = pre ++ suf → s_ch n (n 428 15) y suf → (∀ i j : Int, i ≠ 467 → n1 i j = n i j) → (∀ t : Nat, t < pre.length → n1 467 t = n 433 (E.getD t 0)) → (∀ z ∈ pre, n 432 z = 2 ∧ 0 ≤ n 433 z ∧ n 433 z ≤ 4) → xp_m_entries1_81 d b f ww ix 1 y pre.length n1 Q := by
  intro suf
  have hbd := hst.1
  unfold s_bd at hbd
  induction suf with
  | nil =>
    intro pre y n1 he hc hf hv ha
    have e : E = pre := by rw [he, List.append_nil]
    apply xr_m_entries1_81
    rw [if_neg (by rw [← e]; omega)]
    exact H1 ⟨hE, by rw [e]; exact ha⟩ n1 hf (fun t ht => hv t (by rw [← e]; omega))
  | cons u suf ih =>
    intro pre y n1 he hc hf hv ha
    have hlen2 : E.length = pre.length + (suf.length + 1) := by rw [he, List.length_append]; rfl
    have hget : E.getD pre.length 0 = u := by
      rw [he, List.getD_eq_getElem?_getD, List.getElem?_append_right (Nat.le_refl _), Nat.sub_self]
      rfl
    obtain ⟨e1, u0, u1, hc2⟩ := hc
    subst e1
    have len1 : ((pre ++ [y]).length : Int) = pre.length + 1 := t_len _ _
    have f2 : ∀ i j : Int, i ≠ 467 → w_up n1 467 pre.length (n1 433 y) i j = n i j := fun i j z => by rw [w_up_ne z]; exact hf i j z
    have bad : ¬ (n 432 y = 2 ∧ 0 ≤ n 433 y ∧ n 433 y ≤ 4) → ∀ y' k' : Int, xp_m_entries1_81 d b f ww ix 0 y' k' (w_up n1 467 pre.length (n1 433 y)) Q := by
      intro z y' k'
      have z0 := H0 (fun w => z (w.2 y (by rw [he]; exact List.mem_append_right _ (List.mem_cons_self ..)))) _ f2
      apply xr_m_entries1_81
      refine z_ite (fun _ => ?_) (fun _ => z0)
      rw [if_pos rfl]
      exact z0
    have good : (n 432 y = 2 ∧ 0 ≤ n 433 y ∧ n 433 y ≤ 4) → xp_m_entries1_81 d b f ww ix 1 ((w_up n1 467 pre.length (n1 433 y)) 437 y) (w_32 ((pre.length : Int) + 1)) (w_up n1 467 pre.length (n1 433 y)) Q := by
      intro z
      rw [f2 437 y (by decide), w_32_id (x := (pre.length : Int) + 1) (by omega) (by omega), ← len1]
      refine ih (pre ++ [y]) _ _ (by rw [he, List.append_assoc]; rfl) hc2 f2 (fun t ht => ?_) (fun v hv2 => ?_)
      · by_cases w : (t : Int) = pre.length
        · have ht2 : t = pre.length := by omega
          rw [w, w_up_eq, hf _ _ (by decide), ht2, hget]
        · rw [w_up_nb w]
          exact hv t (by omega)
      · rcases List.mem_append.mp hv2 with w | w
        · exact ha v w
        · rw [List.mem_singleton.mp w]; exact z
    have e2 := hf 432 y (by decide)
    have e3 := hf 433 y (by decide)
    apply xr_m_entries1_81
    rw [if_pos (by omega), if_neg (by decide)]
    refine ⟨by omega, ?_⟩
    by_cases q : n 432 y = 2
    · rw [if_pos (by omega)]
      refine ⟨by omega, ?_⟩
      by_cases q1 : n 433 y < 0
      · rw [if_pos (by omega)]
        exact ⟨by omega, by omega, by omega, bad (by omega) _ _⟩
      · rw [if_neg (by omega)]
        refine ⟨by omega, ?_⟩
        by_cases q2 : 4 < n 433 y
        · rw [if_pos (by omega)]
          exact ⟨by omega, by omega, by omega, bad (by omega) _ _⟩
        · rw [if_neg (by omega)]
          exact ⟨by omega, by omega, by omega, good (by omega)⟩
    · rw [if_neg (by omega)]
      exact ⟨by omega, by omega, by omega, bad (fun z => q z.1) _ _⟩
end EZ
