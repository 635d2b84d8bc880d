/-! ===== an open document: entries, names, boxes, both sides ===== -/
theorem t_mCatalog : t_s 332 (s_wd 2) := ⟨by decide, by decide, by decide, _, rfl⟩
theorem t_mPages : t_s 254 (s_wd 3) := ⟨by decide, by decide, by decide, _, rfl⟩
theorem t_mPage : t_s 236 (s_wd 4) := ⟨by decide, by decide, by decide, _, rfl⟩
theorem t_mKids : t_s 246 (s_wd 5) := ⟨by decide, by decide, by decide, _, rfl⟩
theorem t_mCount : t_s 190 (s_wd 6) := ⟨by decide, by decide, by decide, _, rfl⟩
theorem t_mParent : t_s 238 (s_wd 7) := ⟨by decide, by decide, by decide, _, rfl⟩
theorem t_mMediaBox : t_s 240 (s_wd 8) := ⟨by decide, by decide, by decide, _, rfl⟩
theorem t_mResources : t_s 256 (s_wd 9) := ⟨by decide, by decide, by decide, _, rfl⟩
theorem t_mRotate : t_s 258 (s_wd 10) := ⟨by decide, by decide, by decide, _, rfl⟩
theorem t_mContents : t_s 188 (s_wd 11) := ⟨by decide, by decide, by decide, _, rfl⟩
theorem t_mRoot : t_s 328 (s_wd 36) := ⟨by decide, by decide, by decide, _, rfl⟩
theorem t_mInfo : t_s 330 (s_wd 37) := ⟨by decide, by decide, by decide, _, rfl⟩
/-- only the last number differs -/
def e80 (n n' : w_M) : Prop := ∀ i j : Int, ¬ (i = 428 ∧ j = 80) → n' i j = n i j
/-- a node of units -/
def t_nu (n : w_M) (z : Int) : Prop := 0 ≤ z ∧ (n 432 z = 3 ∨ (n 432 z = 2 ∧ -32768 ≤ n 433 z ∧ n 433 z ≤ 32767))
def t_bx (g : s_g) (n : w_M) (z : Int) : Prop := n 432 z = 6 ∧ n 435 z = 4 ∧ ∀ y ∈ g.2.1 z, t_nu n (o_re n y)
/-- nothing, or null -/
def t_no (n : w_M) (z : Int) : Prop := z < 0 ∨ n 432 z = 0
section OB2
variable {d f : Nat} {g g' : s_g} {m m' m1 m2 n n' n1 n2 : w_M} {Q R : Int → w_M → Prop} {p k v x y z r b i l t s a : Int} {w : List Int}
theorem e80.rf : e80 n n := fun _ _ _ => rfl
theorem e80.tr (h : e80 n n1) (h2 : e80 n1 n2) : e80 n n2 := fun i j q => (h2 i j q).trans (h i j q)
theorem e80.up (h : e80 n n1) : e80 n (w_up n1 428 80 v) := fun i j q => by rw [l_up q]; exact h i j q
theorem e80.big (h : e80 n n1) (hi : i ≠ 428) : n1 i p = n i p := h _ _ (by omega)
theorem e80.I (h : o_I g m n) (e : e80 n n1) : o_I g m n1 := h.fr (fun _ _ _ _ _ => rfl) rfl rfl (fun i j q1 q2 => e i j (by omega)) (fun j q => e _ _ (by omega))
theorem e80.re (e : e80 n n1) : o_re n1 y = o_re n y := o_re_fr (fun i j q1 q2 => e i j (by omega)) (e _ _ (by omega))
theorem e80.ln (e : e80 n n1) : o_ln n1 y = o_ln n y := o_ln_fr (fun i j q1 q2 => e i j (by omega)) (e _ _ (by omega))
theorem e80.fd (e : e80 n n1) : ∀ w L, s_fd n1 w L = s_fd n w L := s_fd_fr (fun i j q1 q2 => e i j (by omega))
theorem e80.nk (e : e80 n n1) : s_nk n1 y w ↔ s_nk n y w := s_nk_fr (fun i j q1 q2 => e i j (by omega)) w
theorem o_I.fdn (h : o_I g m n) (hb : 0 ≤ b ∧ b < n 428 15) (h7 : n 432 b = 7) : s_no n (s_fd n w (g.2.1 b)) := h.1.fd hb h7
theorem o_I.part (h : o_I g m n) (hb : 0 ≤ b ∧ b < n 428 15) (h67 : n 432 b = 6 ∨ n 432 b = 7) (hy : y ∈ g.2.1 b) : 0 ≤ y ∧ y < n 428 15 := (h.1.2.2.2.2 b hb.1 hb.2 h67).1.1.mem y hy
theorem o_I.bd (h : o_I g m n) : (0 ≤ n 428 15 ∧ n 428 15 ≤ 40000) ∧ (41 ≤ m 359 6 ∧ m 359 6 ≤ 16564) ∧ (0 ≤ n 428 17 ∧ n 428 17 ≤ 140000) := by
  have bd := h.1.1
  unfold s_bd at bd
  omega
theorem o_I.txt (h : o_I g m n) (hz : s_no n z) : z < 40000 ∧ (0 ≤ z → n 432 z = 4 → 0 ≤ n 436 z ∧ n 436 z + n 435 z ≤ 150000) := by
  have bd := h.bd
  refine ⟨by unfold s_no at hz; omega, fun z1 z2 => ?_⟩
  have nd := h.1.2.1 z z1 (by unfold s_no at hz; omega)
  have tx := (nd.2.2.2.2.2.2.2.1 (Or.inl z2)).2
  unfold s_tx at tx
  omega
/-- the class: an entry's value -/
theorem c_tent (h : o_I g m n) (hk : 1 ≤ k ∧ k ≤ 40) (hb : 0 ≤ b ∧ b < n 428 15) (h7 : n 432 b = 7) (hQ : Q (o_up g (o_re n (s_fd n (s_wd k) (g.2.1 b)))) m) : xc_ta_entry (d + 4) (g.1 b) k m Q := by
  apply xr_ta_entry
  refine sp_st_entry (d := d) h.1 h.2.1 hk hb h7 ?_
  exact c_value (d := d) h (h.fdn hb h7) hQ
/-- the reference -/
theorem r_tent (h : o_I g m n) (e : e80 n n1) (hs : t_s s (s_wd k)) (hb : 0 ≤ b ∧ b < n 428 15) (h7 : n 432 b = 7) (hQ : ∀ n2, e80 n n2 → n2 428 80 = o_ln n (s_fd n (s_wd k) (g.2.1 b)) → Q (o_re n (s_fd n (s_wd k) (g.2.1 b))) n2) : xc_m_entry (d + 7) b s n1 Q := by
  have h1 := e.I h
  have no := h.fdn (w := s_wd k) hb h7
  apply xr_m_entry
  refine r_rawEntry (d := d) h1.1 hs (by rw [e _ _ (by omega)]; exact hb) (by rw [e _ _ (by omega)]; exact h7) ?_
  rw [e.fd]
  refine r_resolve (d := d + 3) h1 (by unfold s_no at no ⊢; rw [e _ _ (by omega)]; exact no) ?_
  rw [e.re, e.ln]
  exact hQ _ e.up w_up_eq
theorem r_raw2 (h : o_I g m n) (e : e80 n n1) (hs : t_s s (s_wd k)) (hb : 0 ≤ b ∧ b < n 428 15) (h7 : n 432 b = 7) (hQ : Q (s_fd n (s_wd k) (g.2.1 b)) n1) : xc_m_rawEntry (d + 6) b s n1 Q := by
  refine r_rawEntry (d := d) (e.I h).1 hs (by rw [e _ _ (by omega)]; exact hb) (by rw [e _ _ (by omega)]; exact h7) ?_
  rw [e.fd]
  exact hQ
theorem r_resolve2 (h : o_I g m n) (e : e80 n n1) (hy : s_no n y) (hQ : ∀ n2, e80 n n2 → n2 428 80 = o_ln n y → Q (o_re n y) n2) : xc_m_resolve (d + 3) y n1 Q := by
  refine r_resolve (d := d) (e.I h) (by unfold s_no at hy ⊢; rw [e _ _ (by omega)]; exact hy) ?_
  rw [e.re, e.ln]
  exact hQ _ e.up w_up_eq
theorem r_isName2 (h : o_I g m n) (e : e80 n n1) (hs : t_s s w) (hz : s_no n z) (H1 : s_nk n z w → Q 1 n1) (H0 : ¬ s_nk n z w → Q 0 n1) : xc_m_isName (d + 6) z s n1 Q := by
  obtain ⟨t1, t2⟩ := h.txt hz
  refine r_isName (d := d) hs t1 (fun z1 z2 => ?_) (fun q => H1 (e.nk.mp q)) (fun q => H0 (fun w => q (e.nk.mpr w)))
  rw [e _ _ (by omega)] at z2
  rw [e _ _ (by omega), e _ _ (by omega)]
  exact t2 z1 z2
theorem c_isName2 (h : o_I g m n) (hk : 1 ≤ k ∧ k ≤ 40) (hz : s_no n z) (H1 : s_nk n z (s_wd k) → Q 1 m) (H0 : ¬ s_nk n z (s_wd k) → Q 0 m) : xc_st_isName (d + 3) (o_up g z) k m Q := by
  by_cases q : z < 0
  · unfold o_up
    rw [if_pos q]
    apply xr_st_isName
    refine sp_st_kindOf (d := d + 1) ?_
    rw [o_kd0 h, if_neg (by decide)]
    exact H0 (fun w => by have := w.1; omega)
  · have e : o_up g z = s_up g.1 z := by
      unfold o_up
      rw [if_neg q, s_up_y (by omega)]
    rw [e]
    exact sp_st_isName (d := d) h.1 h.2.1 hk hz H1 H0
theorem c_dict (h : o_I g m n) (hy : s_no n y) (H1 : o_isd n y → Q (g.1 (o_re n y)) m) (H0 : ¬ o_isd n y → Q (-1) m) : xc_ta_dict (d + 4) (s_up g.1 y) m Q := by
  have bd := h.bd
  have no := o_re_no h hy
  obtain ⟨l1, l2, l3⟩ := o_ln_r h hy
  apply xr_ta_dict
  refine c_value (d := d) h hy ?_
  refine sp_st_kindOf (d := d + 2) ?_
  rw [o_kd h no]
  by_cases q : o_re n y < 0
  · rw [if_pos q, if_neg (by decide)]
    exact H0 (fun z => by have := z.1; omega)
  · rw [if_neg q]
    by_cases q7 : n 432 (o_re n y) = 7
    · rw [if_pos q7]
      refine c_target (d := d + 2) h hy ?_
      have up : o_up g (o_re n y) = g.1 (o_re n y) := if_neg q
      by_cases q0 : o_ln n y = 0
      · rw [q0]
        have e457 : n 457 0 = 0 := by
          have := (h.n0 (k := 0) ⟨by decide, by decide⟩ (fun z => by have := z.1; omega)).2.1
          exact this
        refine c_isS_n (d := d + 2) (fun z => by have := z.1.1; omega) ?_
        rw [if_pos rfl, up]
        exact H1 ⟨by omega, q7, by rw [q0]; exact e457⟩
      · obtain ⟨k1, k2, k3, k4, k5, k6, k7, k8⟩ := h.num (l3 q0)
        rcases k8 with ⟨k8, k9⟩ | ⟨k8, k9, k10, k11, k12, k13, k14⟩
        · refine c_isS_n (d := d + 2) (fun z => by omega) ?_
          rw [if_pos rfl, up]
          exact H1 ⟨by omega, q7, k8⟩
        · refine c_isS_y (d := d + 2) k2 k3 (by omega) ?_
          rw [if_neg (by decide)]
          exact H0 (fun z => by have := z.2.2; omega)
    · rw [if_neg q7]
      exact H0 (fun z => q7 z.2.1)
theorem r_isDict (h : o_I g m n) (e : e80 n n1) (hz : s_no n z) (H1 : 0 ≤ z → n 432 z = 7 → Q 1 n1) (H0 : ¬ (0 ≤ z ∧ n 432 z = 7) → Q 0 n1) : xc_m_isDict (d + 1) z n1 Q := by
  have bd := h.bd
  apply xr_m_isDict
  rcases hz with hz | hz
  · rw [if_pos (by omega)]
    exact H0 (fun z => by omega)
  · rw [if_neg (by omega), e _ _ (by omega)]
    refine ⟨by omega, ?_⟩
    exact z_ite (fun q => H1 hz.1 q) (fun q => H0 (fun z => q z.2))
theorem r_dictAt (h : o_I g m n) (e : e80 n n1) (hy : s_no n y) (H1 : o_isd n y → ∀ n2, e80 n n2 → Q (o_re n y) n2) (H0 : ¬ o_isd n y → ∀ n2, e80 n n2 → Q (-1) n2) : xc_m_dictAt (d + 4) y n1 Q := by
  obtain ⟨l1, l2, l3⟩ := o_ln_r h hy
  apply xr_m_dictAt
  refine r_resolve2 (d := d) h e hy (fun n2 e2 e80' => ?_)
  refine r_isDict (d := d + 2) h e2 (o_re_no h hy) (fun q0 q7 => ?_) (fun q => ?_)
  · rw [if_neg (by decide), e80', e2 457 _ (by omega)]
    refine ⟨⟨l1, l2⟩, ?_⟩
    exact z_ite (fun q => H1 ⟨q0, q7, q⟩ n2 e2) (fun q => H0 (fun z => q z.2.2) n2 e2)
  · rw [if_pos rfl]
    exact H0 (fun z => q ⟨z.1, z.2.1⟩) n2 e2
/-- the number of a dict, told by a reference; 0 -/
noncomputable def o_dn (n : w_M) (y : Int) : Int := by
  classical
  exact if 0 ≤ y ∧ n 432 y = 8 ∧ o_isd n y then o_ln n y else 0
theorem o_dn_r (h : o_I g m n) (hy : s_no n y) : 0 ≤ o_dn n y ∧ o_dn n y < 200 ∧ (o_dn n y ≠ 0 → o_u n (o_dn n y) ∧ n 432 (n 455 (o_dn n y)) = 7 ∧ n 457 (o_dn n y) = 0 ∧ o_dn n y = o_ln n y ∧ o_isd n y) := by
  unfold o_dn
  by_cases q : 0 ≤ y ∧ n 432 y = 8 ∧ o_isd n y
  · rw [if_pos q]
    obtain ⟨l1, l2, l3⟩ := o_ln_r h hy
    refine ⟨l1, l2, fun z => ⟨l3 z, ?_, q.2.2.2.2, rfl, q.2.2⟩⟩
    rcases o_cs h hy with w | w | w
    · exact absurd w.2 z
    · exact absurd w.2.2.2.2 z
    · rw [← w.2.2.2.2.2]; exact q.2.2.2.1
  · rw [if_neg q]
    exact ⟨by decide, by decide, fun z => absurd rfl z⟩
theorem r_dictNumber (h : o_I g m n) (e : e80 n n1) (hy : s_no n y) (hQ : ∀ n2, e80 n n2 → Q (o_dn n y) n2) : xc_m_dictNumber (d + 4) y n1 Q := by
  have bd := h.bd
  obtain ⟨l1, l2, l3⟩ := o_ln_r h hy
  unfold o_dn at hQ
  apply xr_m_dictNumber
  by_cases q0 : y < 0
  · rw [if_pos q0]
    rw [if_neg (fun z => by omega)] at hQ
    exact hQ n1 e
  · rw [if_neg q0, e _ _ (by omega)]
    refine ⟨by unfold s_no at hy; omega, ?_⟩
    by_cases q8 : n 432 y = 8
    · rw [if_pos q8]
      refine r_resolve2 (d := d) h e hy (fun n2 e2 e80' => ?_)
      refine r_isDict (d := d + 2) h e2 (o_re_no h hy) (fun q1 q7 => ?_) (fun q => ?_)
      · rw [if_neg (by decide), e80', e2 457 _ (by omega)]
        refine ⟨⟨l1, l2⟩, ?_⟩
        refine z_ite (fun q => ?_) (fun q => ?_)
        · rw [if_pos ⟨by omega, q8, q1, q7, q⟩] at hQ
          exact hQ n2 e2
        · rw [if_neg (fun z => q z.2.2.2.2)] at hQ
          exact hQ n2 e2
      · rw [if_pos rfl]
        rw [if_neg (fun z => q ⟨z.2.2.1, z.2.2.2.1⟩)] at hQ
        exact hQ n2 e2
    · rw [if_neg q8]
      rw [if_neg (fun z => q8 z.2.1)] at hQ
      exact hQ n1 e
/-- the class's way to it: target and dict -/
theorem o_dn_0 (h : o_I g m n) (hy : s_no n y) : o_dn n y = 0 ↔ (o_ln n y = 0 ∨ ¬ o_isd n y) := by
  unfold o_dn
  by_cases q : 0 ≤ y ∧ n 432 y = 8 ∧ o_isd n y
  · rw [if_pos q]
    exact ⟨fun z => Or.inl z, fun z => z.resolve_right (fun w => w q.2.2)⟩
  · rw [if_neg q]
    refine ⟨fun _ => ?_, fun _ => rfl⟩
    by_cases z : o_ln n y = 0
    · exact Or.inl z
    · refine Or.inr (fun w => q ?_)
      rcases o_cs h hy with u | u | u
      · exact absurd u.2 z
      · exact absurd u.2.2.2.2 z
      · exact ⟨u.1, u.2.2.1, w⟩
/-- numbers of units -/
theorem c_isNum (h : o_I g m n) (hz : s_no n z) (H1 : t_nu n z → Q 1 m) (H0 : ¬ t_nu n z → Q 0 m) : xc_st_isNumber (d + 2) (o_up g z) m Q := by
  have bd := h.bd
  apply xr_st_isNumber
  refine sp_st_kindOf (d := d) ?_
  rw [o_kd h hz]
  unfold o_up
  rcases hz with hz | hz
  · rw [if_pos (show z < 0 by omega), if_neg (by decide), if_neg (by decide)]
    exact H0 (fun q => by have := q.1; omega)
  · have nd := h.1.2.1 z hz.1 hz.2
    have n1 := nd.1
    have n2 := nd.2.1
    rw [if_neg (show ¬ z < 0 by omega), if_neg (show ¬ z < 0 by omega)]
    refine z_ite (fun q => H1 ⟨hz.1, Or.inl q⟩) (fun q3 => ?_)
    refine z_ite (fun q2 => ?_) (fun q2 => H0 (fun w => by rcases w.2 with w | w <;> omega))
    have e := nd.2.2.2.2.2.1 (Or.inl ⟨by omega, by omega⟩)
    rw [e]
    refine ⟨by omega, ?_⟩
    refine z_ite (fun q => H0 (fun w => by rcases w.2 with w | w <;> omega)) (fun q => ⟨by omega, ?_⟩)
    exact z_ite (fun q' => H0 (fun w => by rcases w.2 with w | w <;> omega)) (fun q' => H1 ⟨hz.1, Or.inr ⟨q2, by omega, by omega⟩⟩)
theorem r_isNum (h : o_I g m n) (e : e80 n n1) (hz : s_no n z) (H1 : t_nu n z → Q 1 n1) (H0 : ¬ t_nu n z → Q 0 n1) : xc_m_isNumber (d + 1) z n1 Q := by
  have bd := h.bd
  apply xr_m_isNumber
  rcases hz with hz | hz
  · rw [if_pos (by omega)]
    exact H0 (fun q => by have := q.1; omega)
  · rw [if_neg (by omega), e 432 _ (by omega), e 433 _ (by omega)]
    refine ⟨by omega, ?_⟩
    refine z_ite (fun q => H1 ⟨hz.1, Or.inl q⟩) (fun q3 => ⟨by omega, ?_⟩)
    refine z_ite (fun q2 => ⟨by omega, ?_⟩) (fun q2 => H0 (fun w => by rcases w.2 with w | w <;> omega))
    refine z_ite (fun q => H0 (fun w => by rcases w.2 with w | w <;> omega)) (fun q => ⟨by omega, ?_⟩)
    exact z_ite (fun q' => H0 (fun w => by rcases w.2 with w | w <;> omega)) (fun q' => H1 ⟨hz.1, Or.inr ⟨q2, by omega, by omega⟩⟩)
/-- boxes -/
theorem c_isBox (h : o_I g m n) (hz : 0 ≤ z ∧ z < n 428 15) (H1 : t_bx g n z → Q 1 m) (H0 : ¬ t_bx g n z → Q 0 m) : xc_tr_isBox (d + 4) (g.1 z) m Q := by
  have bd := h.bd
  have nd := h.1.2.1 z hz.1 hz.2
  have n1 := nd.1
  have n2 := nd.2.1
  apply xr_tr_isBox
  refine sp_st_kindOf (d := d + 2) ?_
  rw [f_kind_v ⟨by omega, n2⟩ (by omega), nd.2.2.1]
  by_cases q6 : n 432 z = 6
  · rw [if_pos q6]
    refine sp_st_parts (d := d + 2) ?_
    rw [f_parts_v ⟨by omega, n2⟩ (by omega) (by rw [nd.2.2.1]; exact Or.inl q6), (nd.2.2.2.2.2.2.2.2.1 (Or.inl q6)).1]
    by_cases q4 : n 435 z = 4
    · rw [if_pos q4]
      have ls := (h.1.2.2.2.2 z hz.1 hz.2 (Or.inl q6)).1
      have len : (g.2.1 z).length = 4 := by have := ls.2.1; omega
      have key : ∀ (j : Nat) (i : Int), i + j = 4 → 0 ≤ i → (∀ t : Nat, (t : Int) < i → t_nu n (o_re n ((g.2.1 z).getD t (-1)))) → xp_tr_isBox_29 (d + 3) (g.1 z) i m Q := by
        intro j
        induction j with
        | zero =>
          intro i hi i0 hp
          apply xr_tr_isBox_29
          rw [if_neg (by omega)]
          refine H1 ⟨q6, q4, fun y hy => ?_⟩
          obtain ⟨t, ht, e⟩ := List.getElem_of_mem hy
          have := hp t (by omega)
          rw [List.getD_eq_getElem?_getD, List.getElem?_eq_getElem ht] at this
          rw [← e]
          exact this
        | succ j ih =>
          intro i hi i0 hp
          have mem : (g.2.1 z).getD i.toNat (-1) ∈ g.2.1 z := by
            rw [List.getD_eq_getElem?_getD, List.getElem?_eq_getElem (by omega)]
            exact List.getElem_mem _
          have pr := h.part hz (Or.inl q6) mem
          apply xr_tr_isBox_29
          rw [if_pos (by omega), w_32_id (x := i + 1) (by omega) (by omega)]
          have sp := sp_st_part (d := d + 1) (Q := fun r1 m1 => xc_ta_value (d + 3) r1 m1 (fun r2 m2 => xc_st_isNumber (d + 3) r2 m2 (fun r3 m3 => if r3 = 0 then (Q 0 m3) else (xp_tr_isBox_29 (d + 3) (g.1 z) (i + 1) m3 Q)))) (i := i) h.1 (y := z) (Or.inr hz) (Or.inl (by show (if z < 0 then -1 else n 432 z) = 6; rw [if_neg (by omega)]; exact q6)) (by omega)
          rw [s_up_y hz.1, if_neg (by omega)] at sp
          refine sp ?_
          refine c_value (d := d) h (Or.inr pr) ?_
          refine c_isNum (d := d + 1) h (o_re_no h (Or.inr pr)) (fun w => ?_) (fun w => ?_)
          · rw [if_neg (by decide)]
            refine ih (i + 1) (by omega) (by omega) (fun t ht => ?_)
            by_cases e : (t : Int) = i
            · have : t = i.toNat := by omega
              rw [this]; exact w
            · exact hp t (by omega)
          · rw [if_pos rfl]
            exact H0 (fun b => w (b.2.2 _ mem))
      exact key 4 0 (by decide) (by decide) (fun t ht => by omega)
    · rw [if_neg q4]
      exact H0 (fun b => q4 b.2.1)
  · rw [if_neg q6]
    exact H0 (fun b => q6 b.1)
theorem r_isBox (h : o_I g m n) (e : e80 n n1) (hz : 0 ≤ z ∧ z < n 428 15) (H1 : t_bx g n z → ∀ n2, e80 n n2 → Q 1 n2) (H0 : ¬ t_bx g n z → ∀ n2, e80 n n2 → Q 0 n2) : xc_m_isBox (d + 4) z n1 Q := by
  have bd := h.bd
  apply xr_m_isBox
  rw [e 432 _ (by omega), e 435 _ (by omega), e 436 _ (by omega)]
  refine ⟨by omega, ?_⟩
  by_cases q6 : n 432 z = 6
  · rw [if_pos q6]
    refine ⟨by omega, ?_⟩
    by_cases q4 : n 435 z = 4
    · rw [if_pos q4]
      refine ⟨by omega, ?_⟩
      have ls := (h.1.2.2.2.2 z hz.1 hz.2 (Or.inl q6)).1
      have key : ∀ (L : List Int) (x v : Int) (n1 : w_M), e80 n n1 → s_ch n (n 428 15) x L → (v = 0 ∨ v = 1) → (t_bx g n z ↔ (v = 1 ∧ ∀ y ∈ L, t_nu n (o_re n y))) → xp_m_isBox_32 (d + 3) v x n1 Q := by
        intro L
        induction L with
        | nil =>
          intro x v n1 e hc hv hi
          have hx : x = -1 := hc
          apply xr_m_isBox_32
          rw [if_pos (by omega)]
          refine ⟨hv, ?_⟩
          rcases hv with hv | hv
          · rw [hv]
            exact H0 (fun b => by have := (hi.mp b).1; omega) n1 e
          · rw [hv]
            exact H1 (hi.mpr ⟨hv, fun y hy => by cases hy⟩) n1 e
        | cons y L ih =>
          intro x v n1 e hc hv hi
          obtain ⟨c1, c2, c3, c4⟩ := hc
          subst c1
          apply xr_m_isBox_32
          rw [if_neg (by omega)]
          rcases hv with hv | hv
          · rw [if_pos hv]
            refine ⟨by omega, ?_⟩
            rw [e 437 _ (by omega)]
            exact ih _ 0 n1 e c4 (Or.inl rfl) (hi.trans ⟨fun w => by omega, fun w => by omega⟩)
          · rw [if_neg (by omega)]
            refine r_resolve2 (d := d) h e (Or.inr ⟨c2, c3⟩) (fun n2 e2 _ => ?_)
            refine r_isNum (d := d + 2) h e2 (o_re_no h (Or.inr ⟨c2, c3⟩)) (fun w => ?_) (fun w => ?_)
            · rw [if_neg (by decide), e2 437 _ (by omega)]
              refine ⟨by omega, ih _ 1 n2 e2 c4 (Or.inr rfl) (hi.trans ⟨fun u => ⟨rfl, fun t ht => u.2 t (List.mem_cons_of_mem _ ht)⟩, fun u => ⟨hv, fun t ht => ?_⟩⟩)⟩
              rcases List.mem_cons.mp ht with et | et
              · rw [et]; exact w
              · exact u.2 t et
            · rw [if_pos rfl, e2 437 _ (by omega)]
              exact ⟨by omega, ih _ 0 n2 e2 c4 (Or.inl rfl) (hi.trans ⟨fun u => absurd (u.2 x (List.mem_cons_self ..)) w, fun u => by have := u.1; omega⟩)⟩
      exact key (g.2.1 z) _ 1 n1 e ls.1 (Or.inr rfl) ⟨fun b => ⟨rfl, b.2.2⟩, fun b => ⟨q6, q4, b.2⟩⟩
    · rw [if_neg q4]
      exact H0 (fun b => q4 b.2.1) n1 e
  · rw [if_neg q6]
    exact H0 (fun b => q6 b.1) n1 e
theorem r_isNothing (h : o_I g m n) (e : e80 n n1) (hz : s_no n z) (H1 : t_no n z → Q 1 n1) (H0 : ¬ t_no n z → Q 0 n1) : xc_m_isNothing (d + 1) z n1 Q := by
  have bd := h.bd
  apply xr_m_isNothing
  rcases hz with hz | hz
  · rw [if_pos (by omega)]
    exact H1 (Or.inl (by omega))
  · rw [if_neg (by omega), e 432 _ (by omega)]
    exact ⟨by omega, z_ite (fun q => H1 (Or.inr q)) (fun q => H0 (fun w => by rcases w with w | w <;> omega))⟩
end OB2
