/-! ===== sections: widths, pairs, the class ===== -/
def e_wd (n : w_M) (l : List Int) : Prop := l.length = 3 ∧ ∀ y ∈ l, n 432 y = 2 ∧ 0 ≤ n 433 y ∧ n 433 y ≤ 4
def e_ix (n : w_M) (l : List Int) : Prop := l.length % 2 = 0 ∧ ∀ y ∈ l, n 432 y = 2 ∧ 0 ≤ n 433 y
/-- the pairs that a dict tells -/
noncomputable def e_pp (g : s_g) (n : w_M) (b : Int) : List (Int × Int) := if s_fd n (s_wd 31) (g.2.1 b) < 0 then [(0, z_wh g n b 32 (-1))] else e_pl n (g.2.1 (s_fd n (s_wd 31) (g.2.1 b)))
def e_pv (g : s_g) (n : w_M) (b : Int) : Prop := (s_fd n (s_wd 31) (g.2.1 b) < 0 ∧ 0 ≤ z_wh g n b 32 (-1)) ∨ (0 ≤ s_fd n (s_wd 31) (g.2.1 b) ∧ n 432 (s_fd n (s_wd 31) (g.2.1 b)) = 6 ∧ e_ix n (g.2.1 (s_fd n (s_wd 31) (g.2.1 b))))
section EY
variable {d : Nat} {g : s_g} {m m' m2 n n' n2 : w_M} {Q : Int → w_M → Prop} {W : Int → Int} {L p p' q f a b R w w0 w1 w2 x y i : Int} {k : Nat} {o : List Int} {l : List Int}
theorem s_st.sm2 (h : s_st g m n) (hf : ∀ i j : Int, ¬ (366 ≤ i) → m' i j = m i j) : s_st g m' n := by
  have e6 := hf 359 6 (by decide)
  have e7 := hf 359 7 (by decide)
  refine h.fr ⟨by omega, by omega, fun a b q1 q2 _ _ => hf a b (by omega), fun b _ => hf 365 b (by decide)⟩ s_mf.rf rfl ?_
  have := h.1
  unfold s_bd at this ⊢
  rw [e6, e7]
  exact this
theorem s_kw.sm2 (hw : s_kw m) (hf : ∀ i j : Int, ¬ (366 ≤ i) → m' i j = m i j) : s_kw m' := by
  obtain ⟨h0, h1⟩ := hw
  refine ⟨by rw [hf _ _ (by decide)]; exact h0, fun k q1 q2 => ?_⟩
  obtain ⟨a1, a2, a3, a4⟩ := h1 k q1 q2
  exact ⟨by rw [hf _ _ (by decide)]; exact a1, by rw [hf _ _ (by decide)]; exact a2, by rw [hf _ _ (by decide)]; exact a3, fun i hi => by rw [hf _ _ (by decide)]; exact a4 i hi⟩
theorem e_cf.big (h : e_cf m m') : ∀ i j : Int, ¬ (366 ≤ i) → m' i j = m i j := fun i j q => h i j (by omega) (by omega) (by omega)
theorem sp_wholeEntry (h : s_st g m n) (hw : s_kw m) {k : Int} (hk : 1 ≤ k ∧ k ≤ 40) (hb : 0 ≤ b ∧ b < n 428 15) (h7 : n 432 b = 7) (hQ : Q (max (-1) (z_wh g n b k (-1))) m) : xc_st_wholeEntry (d + 4) (g.1 b) k m Q := by
  have no := h.fd (l := s_wd k) hb h7
  unfold z_wh at hQ
  apply xr_st_wholeEntry
  refine sp_st_entry h hw hk hb h7 ?_
  refine sp_st_kindOf ?_
  rw [h.kd no]
  by_cases q : s_fd n (s_wd k) (g.2.1 b) < 0
  · rw [if_pos q] at hQ
    have e : s_kd n (s_fd n (s_wd k) (g.2.1 b)) = -1 := if_pos q
    rw [e, if_neg (by decide)]
    exact hQ
  · rw [if_neg q] at hQ
    have e : s_kd n (s_fd n (s_wd k) (g.2.1 b)) = n 432 (s_fd n (s_wd k) (g.2.1 b)) := if_neg q
    rw [e]
    by_cases q2 : n 432 (s_fd n (s_wd k) (g.2.1 b)) = 2
    · rw [if_pos q2] at hQ ⊢
      refine sp_st_oneOf ?_
      rw [h.one no (by rw [e]; omega)]
      exact hQ
    · rw [if_neg q2] at hQ ⊢
      exact hQ
theorem sp_wholeEntry_n {k : Int} (hk : f_st_kindOf m x ≠ 7) (hQ : Q (-1) m) : xc_st_wholeEntry (d + 4) x k m Q := by
  apply xr_st_wholeEntry
  refine sp_st_entry_n hk ?_
  refine sp_st_kindOf ?_
  rw [f_kind_n (by decide), if_neg (by decide)]
  exact hQ
theorem sp_widths_33 (h : s_st g m n) (hy : 0 ≤ w ∧ w < n 428 15) (h6 : n 432 w = 6) (h3 : (g.2.1 w).length = 3) : ∀ (j : Nat) (i : Nat) (m1 : w_M), i + j = 3 → (∀ i j : Int, i ≠ 393 → m1 i j = m i j) → (∀ t : Nat, t < i → m1 393 t = n 433 ((g.2.1 w).getD t 0)) → (∀ t : Nat, t < i → n 432 ((g.2.1 w).getD t 0) = 2 ∧ 0 ≤ n 433 ((g.2.1 w).getD t 0) ∧ n 433 ((g.2.1 w).getD t 0) ≤ 4) →
    (∀ m', (∀ i j : Int, i ≠ 393 → m' i j = m i j) → (∀ t : Nat, t < 3 → m' 393 t = n 433 ((g.2.1 w).getD t 0)) → e_wd n (g.2.1 w) → Q 1 m') → (¬ e_wd n (g.2.1 w) → ∀ m', (∀ i j : Int, i ≠ 393 → m' i j = m i j) → Q 0 m') → xp_se_readWidths_33 (d + 3) (g.1 w) i m1 Q := by
  have no : s_no n w := Or.inr hy
  have kd6 : s_kd n w = 6 := (if_neg (by omega)).trans h6
  have up : s_up g.1 w = g.1 w := s_up_y hy.1
  intro j
  induction j with
  | zero =>
    intro i m1 hi hf hv ha H1 H0
    apply xr_se_readWidths_33
    rw [if_neg (by omega)]
    have e : i = 3 := by omega
    refine H1 m1 hf (fun t ht => hv t (by omega)) ⟨h3, fun y hy => ?_⟩
    obtain ⟨t, ht, e2⟩ := List.getElem_of_mem hy
    have := ha t (by omega)
    rw [List.getD_eq_getElem?_getD, List.getElem?_eq_getElem ht] at this
    rw [← e2]
    exact this
  | succ j ih =>
    intro i m1 hi hf hv ha H1 H0
    have hmem : (g.2.1 w).getD i 0 ∈ g.2.1 w := by
      rw [List.getD_eq_getElem?_getD, List.getElem?_eq_getElem (by omega)]
      exact List.getElem_mem _
    have hch := (h.2.2.2.2 w hy.1 hy.2 (Or.inl h6)).1.1.mem _ hmem
    have eg : (g.2.1 w).getD i (-1) = (g.2.1 w).getD i 0 := by
      rw [List.getD_eq_getElem?_getD, List.getD_eq_getElem?_getD, List.getElem?_eq_getElem (by omega)]
      rfl
    have h1 : s_st g m1 n := h.sm2 (fun a b q => hf a b (by omega))
    obtain ⟨y, hyy⟩ : ∃ y, y = (g.2.1 w).getD i 0 := ⟨_, rfl⟩
    rw [← hyy] at hmem hch eg
    have yno : s_no n y := Or.inr hch
    have upy : s_up g.1 y = g.1 y := s_up_y hch.1
    have ek : s_kd n y = n 432 y := if_neg (by omega)
    apply xr_se_readWidths_33
    rw [if_pos (by omega), ← up]
    refine sp_st_part h1 no (Or.inl kd6) (by omega) ?_
    rw [if_neg (by omega), Int.toNat_natCast, eg, up]
    refine sp_st_kindOf ?_
    rw [h1.kd yno, ek]
    by_cases q : n 432 y = 2
    · have one := h1.one yno (by rw [ek]; omega)
      rw [if_pos q]
      refine sp_st_oneOf ?_
      rw [one]
      by_cases q1 : n 433 y < 0
      · rw [if_pos q1]
        exact H0 (fun z => by have := z.2 y hmem; omega) m1 hf
      · rw [if_neg q1]
        refine sp_st_oneOf ?_
        rw [one]
        by_cases q2 : 4 < n 433 y
        · rw [if_pos q2]
          exact H0 (fun z => by have := z.2 y hmem; omega) m1 hf
        · rw [if_neg q2]
          refine sp_st_oneOf ?_
          rw [one]
          refine ⟨by omega, ?_⟩
          rw [w_32_id (x := (i : Int) + 1) (by omega) (by omega)]
          have key : ∀ t : Nat, t < i + 1 → t = i ∨ t < i := fun t ht => by omega
          refine ih (i + 1) (w_up m1 393 i (n 433 y)) (by omega) (fun a b z => by rw [w_up_ne z]; exact hf a b z) (fun t ht => ?_) (fun t ht => ?_) H1 H0
          · rcases key t ht with z | z
            · rw [z, w_up_eq, hyy]
            · rw [w_up_nb (by omega)]; exact hv t z
          · rcases key t ht with z | z
            · rw [z, ← hyy]; omega
            · exact ha t z
    · rw [if_neg q]
      exact H0 (fun z => by have := z.2 y hmem; omega) m1 hf
theorem sp_readWidths (h : s_st g m n) (hy : s_no n w)
    (H1 : 0 ≤ w → n 432 w = 6 → e_wd n (g.2.1 w) → ∀ m', (∀ i j : Int, i ≠ 393 → m' i j = m i j) → (∀ t : Nat, t < 3 → m' 393 t = n 433 ((g.2.1 w).getD t 0)) → Q 1 m') (H0 : ¬ (0 ≤ w ∧ n 432 w = 6 ∧ e_wd n (g.2.1 w)) → ∀ m', (∀ i j : Int, i ≠ 393 → m' i j = m i j) → Q 0 m') : xc_se_readWidths (d + 4) (s_up g.1 w) m Q := by
  apply xr_se_readWidths
  refine sp_st_kindOf ?_
  rw [h.kd hy]
  by_cases w0 : w < 0
  · have ek : s_kd n w = -1 := if_pos w0
    rw [ek, if_neg (by decide)]
    exact H0 (fun z => by omega) m (fun _ _ _ => rfl)
  · have ek : s_kd n w = n 432 w := if_neg w0
    rw [ek]
    by_cases q : n 432 w = 6
    · obtain ⟨p1, p2, p3, p4⟩ := h.prt hy (Or.inl (ek.trans q))
      rw [if_pos q]
      refine sp_st_parts ?_
      rw [p1]
      by_cases q3 : n 435 w = 3
      · rw [if_pos q3, s_up_y p2]
        have h33 := sp_widths_33 (d := d) (Q := Q) h ⟨p2, p3⟩ q (by omega) 3 0 m rfl (fun _ _ _ => rfl) (fun t ht => by omega) (fun t ht => by omega) (fun m' a b c => H1 p2 q c m' a b) (fun z m' a => H0 (fun v => z v.2.2) m' a)
        exact h33
      · rw [if_neg q3]
        exact H0 (fun z => by have := z.2.2.1; omega) m (fun _ _ _ => rfl)
    · rw [if_neg q]
      exact H0 (fun z => q z.2.1) m (fun _ _ _ => rfl)
theorem sp_pairs_190 (hst : ∀ b, 0 ≤ b → b < n 428 15 → s_nd g m n b) (hbd : s_bd m n) (hi : ∀ y, y ∈ l → n 432 y = 2 ∧ 0 ≤ n 433 y ∧ n 433 y ≤ 2147483647) : ∀ (k : Nat) (suf : List Int) (x y a : Int) (m1 : w_M), suf.length = 2 * k → (∀ z ∈ suf, z ∈ l) → s_ch n (n 428 15) y suf → s_l2 g.1 (n 428 15) x y → (suf.length : Int) ≤ 2147483647 → (∀ i j : Int, ¬ (366 ≤ i) → m1 i j = m i j) → e_R m1 R o w0 w1 w2 → m1 391 12 = a → 0 ≤ a → a ≤ o.length →
    (∀ es e, e_pairs o w0 w1 w2 (e_pl n suf) a = some (es, e) → e = o.length → ∀ m', e_cf m1 m' → (∀ k, m' 376 k = m1 376 k) → e_cT m' = es.foldl e_ct (e_cT m1) → Q 1 m') → ((∀ es e, e_pairs o w0 w1 w2 (e_pl n suf) a = some (es, e) → e ≠ o.length) → ∀ m', e_cf m1 m' → Q 0 m') → xp_se_readPairs_190 (d + 3) b x suf.length m1 Q := by
  intro k
  unfold s_bd at hbd
  induction k with
  | zero =>
    intro suf x y a m1 hl _ hc hx hb hf hR h12 a0 a1 H1 H0
    have e : suf = [] := List.length_eq_zero_iff.mp (by omega)
    subst e
    apply xr_se_readPairs_190
    rw [if_neg (by decide), h12, hR.2.2.1]
    by_cases q : a = o.length
    · rw [if_pos q]
      exact H1 [] a rfl q m1 e_cf.rf (fun _ => rfl) rfl
    · rw [if_neg q]
      refine H0 (fun es e z => ?_) m1 e_cf.rf
      have := (Prod.mk.inj (Option.some.inj z)).2
      omega
  | succ k ih =>
    intro suf x y a m1 hl hm hc hx hb hf hR h12 a0 a1 H1 H0
    cases suf with
    | nil => simp at hl
    | cons u suf =>
      cases suf with
      | nil => simp at hl; omega
      | cons v suf =>
        obtain ⟨e1, u0, u1, hc2⟩ := hc
        subst e1
        obtain ⟨e2, v0, v1, hc3⟩ := hc2
        have lenx : ((y :: v :: suf).length : Int) = suf.length + 2 := by
          rw [List.length_cons, List.length_cons]
          omega
        have nd1 := hst y u0 u1
        have nd2 := hst v v0 v1
        have i1 := hi y (hm y (List.mem_cons_self ..))
        have i2 := hi v (hm v (List.mem_cons_of_mem _ (List.mem_cons_self ..)))
        have x1 : x = g.1 y := by
          rcases hx with z | z
          · omega
          · exact z.2.2
        have lk1 : m 363 (g.1 y) = g.1 v := by
          have := nd1.2.2.2.2.2.2.2.2.2.1
          rw [e2] at this
          rcases this with z | z
          · omega
          · exact z.2.2
        have one1 : m 361 (g.1 y) = n 433 y := nd1.2.2.2.2.2.1 (by omega)
        have one2 : m 361 (g.1 v) = n 433 v := nd2.2.2.2.2.2.1 (by omega)
        have e6 : m1 359 6 = m 359 6 := hf _ _ (by decide)
        have g1 : 0 ≤ g.1 y ∧ g.1 y < m1 359 6 := ⟨by have := nd1.1; omega, by rw [e6]; exact nd1.2.1⟩
        have g2 : 0 ≤ g.1 v ∧ g.1 v < m1 359 6 := ⟨by have := nd2.1; omega, by rw [e6]; exact nd2.2.1⟩
        have hC : m1 359 6 ≤ 16564 := by rw [e6]; omega
        rw [lenx] at hb ⊢
        apply xr_se_readPairs_190
        rw [if_pos (by omega), x1, if_neg (by omega)]
        refine sp_st_nextOf ?_
        rw [f_next_v g1 hC, hf _ _ (by decide), lk1]
        refine sp_st_oneOf ?_
        rw [f_one_v g1 hC, hf 361 _ (by decide), one1]
        refine sp_st_oneOf ?_
        rw [f_one_v g2 hC, hf 361 _ (by decide), one2]
        have ep : e_pairs o w0 w1 w2 (e_pl n (y :: v :: suf)) a = if 200 < n 433 y + n 433 v then none else (e_prs o w0 w1 w2 (n 433 v).toNat (n 433 y) a).bind (fun x => (e_pairs o w0 w1 w2 (e_pl n suf) x.2).map (fun y => (x.1 ++ y.1, y.2))) := rfl
        refine sp_pair (d := d) hR h12 a0 a1 ⟨i1.2.1, i1.2.2⟩ ⟨i2.2.1, i2.2.2⟩ (fun es e q z m2 c2 g2' s2 le1 le2 T2 => ?_) (fun z m2 c2 => ?_)
        · rw [if_neg (by decide)]
          rw [if_neg q, z] at ep
          have f2 : ∀ i j : Int, ¬ (366 ≤ i) → m2 i j = m i j := fun i j q => by rw [c2.big i j q]; exact hf i j q
          have e62 : m2 359 6 = m 359 6 := f2 _ _ (by decide)
          refine sp_st_nextOf ?_
          rw [f_next_v (by rw [e62]; rw [e6] at g2; exact g2) (by rw [e62]; omega), f2 363 _ (by decide), w_32_id (x := (suf.length : Int) + 2 + -2) (by omega) (by omega), show (suf.length : Int) + 2 + -2 = suf.length by omega]
          have R2 : e_R m2 R o w0 w1 w2 := hR.fr (fun i j z1 z2 z3 => c2 i j (by omega) z1 (by omega))
          refine ih suf _ _ e m2 (by simp at hl; omega) (fun z hz => hm z (List.mem_cons_of_mem _ (List.mem_cons_of_mem _ hz))) hc3 nd2.2.2.2.2.2.2.2.2.2.1 (by omega) f2 R2 s2 (by omega) le2 (fun es' e' z' el m3 c3 g3 T3 => ?_) (fun z' m3 c3 => ?_)
          · refine H1 (es ++ es') e' ?_ el m3 (c2.tr c3) (fun k => (g3 k).trans (g2' k)) (by rw [T3, T2, List.foldl_append])
            rw [ep]
            show (e_pairs o w0 w1 w2 (e_pl n suf) e).map _ = _
            rw [z']
            rfl
          · refine H0 (fun es3 e3 z3 => ?_) m3 (c2.tr c3)
            rw [ep] at z3
            obtain ⟨r, hr, hr2⟩ := Option.map_eq_some_iff.mp z3
            have := z' r.1 r.2 hr
            rw [(Prod.mk.inj hr2).2] at this
            exact this
        · rw [if_pos rfl]
          refine H0 (fun es3 e3 z3 => ?_) m2 c2
          rw [ep] at z3
          rcases z with z | z
          · rw [if_pos z] at z3
            cases z3
          · by_cases q : 200 < n 433 y + n 433 v
            · rw [if_pos q] at z3; cases z3
            · rw [if_neg q, z] at z3
              cases z3
theorem sp_pairs_116 (h : s_st g m n) : ∀ (suf : List Int) (x y : Int), s_ch n (n 428 15) y suf → s_l2 g.1 (n 428 15) x y → (suf.length : Int) ≤ 2147483647 → ((∀ z ∈ suf, n 432 z = 2 ∧ 0 ≤ n 433 z) → xc_st_firstPart (d + 3) a m (fun r1 m1 => xc_st_parts (d + 3) a m1 (fun r2 m2 => xp_se_readPairs_190 (d + 3) b r1 r2 m2 Q))) → ((¬ ∀ z ∈ suf, n 432 z = 2 ∧ 0 ≤ n 433 z) → Q 0 m) → xp_se_readPairs_116 (d + 3) b a x suf.length m Q := by
  intro suf
  have bd := h.1
  unfold s_bd at bd
  induction suf with
  | nil =>
    intro x y _ _ _ H1 H0
    apply xr_se_readPairs_116
    rw [if_neg (by decide)]
    exact H1 (fun z hz => by cases hz)
  | cons u suf ih =>
    intro x y hc hx hb H1 H0
    obtain ⟨e1, u0, u1, hc2⟩ := hc
    subst e1
    have lenx : ((y :: suf).length : Int) = suf.length + 1 := by rw [List.length_cons]; omega
    have nd1 := h.2.1 y u0 u1
    have x1 : x = g.1 y := by
      rcases hx with z | z
      · omega
      · exact z.2.2
    have g1 : 0 ≤ g.1 y ∧ g.1 y < m 359 6 := ⟨by have := nd1.1; omega, nd1.2.1⟩
    rw [lenx] at hb ⊢
    have bad : ¬ (n 432 y = 2 ∧ 0 ≤ n 433 y) → Q 0 m := fun z => H0 (fun w => z (w y (List.mem_cons_self ..)))
    apply xr_se_readPairs_116
    rw [if_pos (by omega), x1, if_neg (by omega)]
    refine sp_st_kindOf ?_
    rw [f_kind_v g1 (by omega), nd1.2.2.1]
    by_cases q : n 432 y = 2
    · rw [if_pos q]
      refine sp_st_oneOf ?_
      rw [f_one_v g1 (by omega), nd1.2.2.2.2.2.1 (by omega)]
      by_cases q2 : n 433 y < 0
      · rw [if_pos q2]
        exact bad (by omega)
      · rw [if_neg q2]
        refine sp_st_nextOf ?_
        rw [f_next_v g1 (by omega), w_32_id (x := (suf.length : Int) + 1 + -1) (by omega) (by omega), show (suf.length : Int) + 1 + -1 = suf.length by omega]
        refine ih _ _ hc2 nd1.2.2.2.2.2.2.2.2.2.1 (by omega) (fun z => H1 (fun w hw => ?_)) (fun z => H0 (fun w => z (fun v hv => w v (List.mem_cons_of_mem _ hv))))
        rcases List.mem_cons.mp hw with e | e
        · rw [e]; omega
        · exact z w e
    · rw [if_neg q]
      exact bad (fun z => q z.1)
theorem sp_readPairs (h : s_st g m n) (hw : s_kw m) (hb : 0 ≤ b ∧ b < n 428 15) (h7 : n 432 b = 7) (hR : e_R m R o w0 w1 w2)
    (H1 : ∀ es, e_pv g n b → e_pairs o w0 w1 w2 (e_pp g n b) 0 = some (es, (o.length : Int)) → ∀ m', e_cf m m' → (∀ k, m' 376 k = m 376 k) → e_cT m' = es.foldl e_ct (e_cT m) → Q 1 m') (H0 : ¬ (e_pv g n b ∧ ∃ es, e_pairs o w0 w1 w2 (e_pp g n b) 0 = some (es, (o.length : Int))) → ∀ m', e_cf m m' → Q 0 m') : xc_se_readPairs (d + 5) (g.1 b) f m Q := by
  refine w_C.nm (fun hn => ?_)
  have nn : ∀ j, -2147483648 ≤ m 361 j ∧ m 361 j < 2147483648 := fun j => w_ar_r hn (a := 361) (by decide) s_361 j
  have n2 : ∀ j, -2147483648 ≤ m 362 j ∧ m 362 j < 2147483648 := fun j => w_ar_r hn (a := 362) (by decide) s_362 j
  have no := h.fd (l := s_wd 31) hb h7
  have bd := h.1
  have bd' := bd
  unfold s_bd at bd'
  apply xr_se_readPairs
  obtain ⟨m1, hm1⟩ : ∃ m1, m1 = w_up m 391 12 0 := ⟨_, rfl⟩
  rw [← hm1]
  have c1 : e_cf m m1 := fun i j q1 q2 q3 => by
    rw [hm1]
    unfold w_up
    rw [if_neg (by omega)]
  have T1 : e_cT m1 = e_cT m := by rw [hm1]; rfl
  have s12 : m1 391 12 = 0 := by rw [hm1, w_up_eq]
  have h1 := h.sm2 c1.big
  have hw1 := hw.sm2 c1.big
  have R1 : e_R m1 R o w0 w1 w2 := hR.fr (fun i j z1 z2 z3 => c1 i j (by omega) z1 (by omega))
  refine sp_st_entry (d := d + 1) h1 hw1 (by decide) hb h7 ?_
  obtain ⟨ix, hix⟩ : ∃ ix, ix = s_fd n (s_wd 31) (g.2.1 b) := ⟨_, rfl⟩
  unfold e_pv e_pp at H1 H0
  rw [← hix] at no H1 H0 ⊢
  by_cases q : ix < 0
  · rw [s_up_n q, if_pos (by decide)]
    refine sp_wholeEntry (d := d) h1 hw1 (by decide) hb h7 ?_
    obtain ⟨S, hS⟩ : ∃ S, S = z_wh g n b 32 (-1) := ⟨_, rfl⟩
    rw [if_pos q] at H1 H0
    rw [← hS] at H1 H0 ⊢
    by_cases q1 : S < 0
    · rw [if_pos (by omega)]
      exact H0 (fun z => by have := z.1; omega) m1 c1
    · rw [if_neg (by omega), show max (-1) S = S by omega]
      have rS : S ≤ 2147483647 := by
        rw [hS]
        unfold z_wh
        by_cases z1 : s_fd n (s_wd 32) (g.2.1 b) < 0
        · rw [if_pos z1]; decide
        · rw [if_neg z1]
          by_cases z2 : n 432 (s_fd n (s_wd 32) (g.2.1 b)) = 2
          · rw [if_pos z2]
            rcases h.fd (l := s_wd 32) hb h7 with w | w
            · omega
            · have := (h.2.1 _ w.1 w.2).2.2.2.2.2.1 (by omega)
              rw [← this]
              have := nn (g.1 (s_fd n (s_wd 32) (g.2.1 b)))
              omega
          · rw [if_neg z2]; decide
      have ep : e_pairs o w0 w1 w2 [(0, S)] 0 = if 200 < 0 + S then none else (e_prs o w0 w1 w2 S.toNat 0 0).bind (fun x => (some (([] : List e_E), x.2)).map (fun y => (x.1 ++ y.1, y.2))) := rfl
      have z0 : (0 : Int) ≤ (o.length : Int) := by omega
      refine sp_pair (d := d + 1) R1 s12 (by decide) z0 (by decide) (by omega) (fun es e q2 z m2 c2 g2 e12 le1 le2 T2 => ?_) (fun z m2 c2 => ?_)
      · rw [if_neg (by decide)]
        rw [if_neg q2, z] at ep
        have R2 : e_R m2 R o w0 w1 w2 := R1.fr (fun i j z1 z2 z3 => c2 i j (by omega) z1 (by omega))
        rw [e12, R2.2.2.1]
        by_cases q3 : e = o.length
        · rw [if_pos q3]
          refine H1 es (Or.inl ⟨q, by omega⟩) ?_ m2 (c1.tr c2) (fun k => by rw [g2 k, hm1, w_up_ne (by decide)]) (by rw [T2, T1])
          rw [ep, ← q3]
          show some (es ++ [], e) = _
          rw [List.append_nil]
        · rw [if_neg q3]
          refine H0 (fun y => ?_) m2 (c1.tr c2)
          obtain ⟨_, es2, y⟩ := y
          rw [ep] at y
          exact q3 (Prod.mk.inj (Option.some.inj y)).2
      · rw [if_pos rfl]
        refine H0 (fun y => ?_) m2 (c1.tr c2)
        obtain ⟨_, es2, y⟩ := y
        rw [ep] at y
        rcases z with z | z
        · rw [if_pos z] at y; cases y
        · by_cases q2 : 200 < 0 + S
          · rw [if_pos q2] at y; cases y
          · rw [if_neg q2, z] at y; cases y
  · rw [if_neg q] at H1 H0
    have ek : s_kd n ix = n 432 ix := if_neg q
    rcases h1.no no with ⟨z1, z2⟩ | ⟨a1, a2, a3, a4, a5, a6, a7⟩
    · omega
    · rw [if_neg (by rw [a3]; omega)]
      refine sp_st_kindOf ?_
      rw [h1.kd no, ek]
      by_cases q6 : n 432 ix = 6
      · obtain ⟨p1, p2, p3, p4⟩ := h1.prt no (Or.inl (ek.trans q6))
        have nd := h.2.1 ix a1 a2
        have hp := nd.2.2.2.2.2.2.2.2.1 (Or.inl q6)
        have hlen : ((g.2.1 ix).length : Int) ≤ 2147483647 := by
          have := n2 (g.1 ix)
          rw [← p4, ← hp.1]
          omega
        rw [if_pos q6]
        refine sp_st_parts ?_
        rw [p1, p4, Int.tmod_eq_emod_of_nonneg (by omega)]
        have ch := (h1.2.2.2.2 ix a1 a2 (Or.inl q6)).1.1
        have lk1 : s_l2 g.1 (n 428 15) (m1 361 (g.1 ix)) (n 436 ix) := (a4.2.2.2.2.2.2.2.2.1 (Or.inl q6)).2.l2
        have fp : f_st_firstPart m1 (s_up g.1 ix) = m1 361 (g.1 ix) := by
          rw [a3]
          exact f_first_v ⟨by omega, a6⟩ a7 (by rw [a4.2.2.1]; exact Or.inl q6)
        by_cases qe : ((g.2.1 ix).length : Int) % 2 = 0
        · rw [if_pos qe]
          refine sp_st_firstPart ?_
          refine sp_st_parts ?_
          rw [fp, p1, p4]
          refine sp_pairs_116 (d := d + 1) h1 (g.2.1 ix) _ _ ch lk1 hlen (fun z => ?_) (fun z => H0 (fun y => ?_) m1 c1)
          · refine sp_st_firstPart ?_
            refine sp_st_parts ?_
            rw [fp, p1, p4]
            have pv : e_ix n (g.2.1 ix) := ⟨by omega, z⟩
            have zb : ∀ y, y ∈ g.2.1 ix → n 432 y = 2 ∧ 0 ≤ n 433 y ∧ n 433 y ≤ 2147483647 := by
              intro y hy
              have t := z y hy
              have cm := ch.mem y hy
              have := (h.2.1 y cm.1 cm.2).2.2.2.2.2.1 (by omega)
              have t2 := nn (g.1 y)
              omega
            refine sp_pairs_190 (d := d + 1) (l := g.2.1 ix) h1.2.1 h1.1 zb ((g.2.1 ix).length / 2) (g.2.1 ix) _ _ 0 m1 (by omega) (fun z hz => hz) ch lk1 hlen (fun _ _ _ => rfl) R1 s12 (by decide) (by omega) (fun es e y el m2 c2 g2 T2 => ?_) (fun y m2 c2 => ?_)
            · rw [el] at y
              exact H1 es (Or.inr ⟨a1, q6, pv⟩) y m2 (c1.tr c2) (fun k => by rw [g2 k, hm1, w_up_ne (by decide)]) (by rw [T2, T1])
            · refine H0 (fun v => ?_) m2 (c1.tr c2)
              obtain ⟨_, es2, v⟩ := v
              exact y es2 _ v rfl
          · rcases y.1 with w | w
            · omega
            · exact z w.2.2.2
        · rw [if_neg qe]
          refine H0 (fun y => ?_) m1 c1
          rcases y.1 with w | w
          · omega
          · have := w.2.2.1
            omega
      · rw [if_neg q6]
        refine H0 (fun y => ?_) m1 c1
        rcases y.1 with w | w
        · omega
        · exact q6 w.2.1
end EY
