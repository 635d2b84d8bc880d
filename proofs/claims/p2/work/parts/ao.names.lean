/-! ===== load's end: which numbers are named, both sides ===== -/
/-- the class: numbers named by its nodes from a to e -/
noncomputable def l_nam (m : w_M) (a e : Int) : w_M := fun i j => by
  classical
  exact if i = 374 ∧ (0 ≤ j ∧ j < 200) ∧ ∃ c, a ≤ c ∧ c < e ∧ m 360 c = 8 ∧ m 361 c = j then 1 else m i j
noncomputable def o_nam (n : w_M) (a e : Int) : w_M := fun i j => by
  classical
  exact if i = 461 ∧ ∃ b, a ≤ b ∧ b < e ∧ n 432 b = 8 ∧ n 433 b = j then 1 else n i j
section OG
variable {d : Nat} {g g' : s_g} {m m' m0 m1 m2 n n' n0 n1 n2 : w_M} {Q R : Int → w_M → Prop} {p k v x y z r b i j l t s a e u : Int} {w : List Int}
theorem l_nam_o (h : i ≠ 374) : l_nam m a e i j = m i j := by
  unfold l_nam
  rw [if_neg (fun w => h w.1)]
theorem l_nam_y (hj : 0 ≤ j ∧ j < 200) (h : ∃ c, a ≤ c ∧ c < e ∧ m 360 c = 8 ∧ m 361 c = j) : l_nam m a e 374 j = 1 := by
  unfold l_nam
  rw [if_pos ⟨rfl, hj, h⟩]
theorem l_nam_n (h : ¬ ∃ c, a ≤ c ∧ c < e ∧ m 360 c = 8 ∧ m 361 c = j) : l_nam m a e 374 j = m 374 j := by
  unfold l_nam
  rw [if_neg (fun w => h w.2.2)]
theorem o_nam_o (h : i ≠ 461) : o_nam n a e i j = n i j := by
  unfold o_nam
  rw [if_neg (fun w => h w.1)]
theorem o_nam_y (h : ∃ b, a ≤ b ∧ b < e ∧ n 432 b = 8 ∧ n 433 b = j) : o_nam n a e 461 j = 1 := by
  unfold o_nam
  rw [if_pos ⟨rfl, h⟩]
theorem o_nam_n (h : ¬ ∃ b, a ≤ b ∧ b < e ∧ n 432 b = 8 ∧ n 433 b = j) : o_nam n a e 461 j = n 461 j := by
  unfold o_nam
  rw [if_neg (fun w => h w.2)]
theorem o_nam_0 : o_nam n a a = n := funext (fun i => funext (fun j => by
  by_cases q : i = 461
  · rw [q]
    exact o_nam_n (fun ⟨b, b1, b2, _⟩ => by omega)
  · exact o_nam_o q))
theorem o_nam_tr (h1 : a ≤ b) (h2 : b ≤ e) : o_nam (o_nam n a b) b e = o_nam n a e := funext (fun i => funext (fun j => by
  by_cases q : i = 461
  · rw [q]
    have c : ∀ t, o_nam n a b 432 t = n 432 t ∧ o_nam n a b 433 t = n 433 t := fun t => ⟨o_nam_o (by decide), o_nam_o (by decide)⟩
    by_cases z : ∃ t, a ≤ t ∧ t < e ∧ n 432 t = 8 ∧ n 433 t = j
    · rw [o_nam_y (n := n) (a := a) (e := e) z]
      by_cases z2 : ∃ t, b ≤ t ∧ t < e ∧ o_nam n a b 432 t = 8 ∧ o_nam n a b 433 t = j
      · rw [o_nam_y z2]
      · rw [o_nam_n z2]
        obtain ⟨t, t1, t2, t3, t4⟩ := z
        refine o_nam_y ⟨t, t1, ?_, t3, t4⟩
        by_cases q2 : t < b
        · exact q2
        · exact absurd ⟨t, by omega, t2, by rw [(c t).1]; exact t3, by rw [(c t).2]; exact t4⟩ z2
    · rw [o_nam_n (n := n) (a := a) (e := e) z, o_nam_n (fun ⟨t, t1, t2, t3, t4⟩ => z ⟨t, by omega, t2, by rw [← (c t).1]; exact t3, by rw [← (c t).2]; exact t4⟩), o_nam_n (fun ⟨t, t1, t2, t3, t4⟩ => z ⟨t, t1, by omega, t3, t4⟩)]
  · rw [o_nam_o q, o_nam_o q, o_nam_o q]))
/-- the class -/
theorem c_nameAll (h0 : 0 ≤ a) (ha : a ≤ e) (he : e ≤ m 359 6) (hC : m 359 6 ≤ 16564) (hQ : Q 0 (l_nam m a e)) : xc_ta_nameAll (d + 2) a e m Q := by
  apply xr_ta_nameAll
  have key : ∀ (k : Nat) (i : Int) (m1 : w_M), i + k = e → a ≤ i → (∀ x y : Int, x ≠ 374 → m1 x y = m x y) → (∀ y, m1 374 y = l_nam m a i 374 y) → xp_ta_nameAll_2 (d + 1) e i m1 Q := by
    intro k
    induction k with
    | zero =>
      intro i m1 hi i0 hf hx
      apply xr_ta_nameAll_2
      rw [if_neg (by omega)]
      have : m1 = l_nam m a e := funext (fun x => funext (fun y => by
        by_cases q : x = 374
        · rw [q, hx]
          rw [show i = e by omega]
        · rw [hf x y q, l_nam_o q]))
      rw [this]
      exact hQ
    | succ k ih =>
      intro i m1 hi i0 hf hx
      have f6 : m1 359 6 = m 359 6 := hf _ _ (by decide)
      have step : ∀ m2 : w_M, (∀ x y : Int, x ≠ 374 → m2 x y = m x y) → (∀ y, m2 374 y = l_nam m a (i + 1) 374 y) → xp_ta_nameAll_2 (d + 1) e (i + 1) m2 Q := fun m2 h1 h2 => ih (i + 1) m2 (by omega) (by omega) h1 h2
      have same : ¬ (m 360 i = 8 ∧ 0 ≤ m 361 i ∧ m 361 i < 200) → ∀ y, m1 374 y = l_nam m a (i + 1) 374 y := fun z y => by
        rw [hx]
        unfold l_nam
        by_cases w : (374 : Int) = 374 ∧ (0 ≤ y ∧ y < 200) ∧ ∃ c, a ≤ c ∧ c < i ∧ m 360 c = 8 ∧ m 361 c = y
        · rw [if_pos w]
          obtain ⟨_, w0, c, c1, c2, c3, c4⟩ := w
          rw [if_pos ⟨rfl, w0, c, c1, by omega, c3, c4⟩]
        · rw [if_neg w]
          rw [if_neg (fun u => ?_)]
          obtain ⟨_, u0, c, c1, c2, c3, c4⟩ := u
          by_cases q : c = i
          · exact z ⟨by rw [← q]; exact c3, by rw [← q, c4]; exact u0.1, by rw [← q, c4]; exact u0.2⟩
          · exact w ⟨rfl, u0, c, c1, by omega, c3, c4⟩
      apply xr_ta_nameAll_2
      rw [if_pos (by omega), w_32_id (x := i + 1) (by omega) (by omega)]
      refine sp_st_oneOf (d := d) ?_
      refine sp_st_kindOf (d := d) ?_
      rw [f_one_v ⟨by omega, by omega⟩ (by omega), f_kind_v ⟨by omega, by omega⟩ (by omega), hf 360 i (by decide), hf 361 i (by decide)]
      refine z_ite (fun q8 => ?_) (fun q8 => step m1 hf (same (fun w => q8 w.1)))
      refine z_ite (fun q0 => step m1 hf (same (fun w => by omega))) (fun q0 => ?_)
      refine z_ite (fun q2 => ⟨by omega, ?_⟩) (fun q2 => step m1 hf (same (fun w => by omega)))
      refine step _ (fun x y q => by rw [w_up_ne q]; exact hf x y q) (fun y => ?_)
      by_cases q : y = m 361 i
      · rw [q, w_up_eq]
        exact (l_nam_y ⟨by omega, q2⟩ ⟨i, i0, by omega, q8, rfl⟩).symm
      · rw [w_up_nb q, hx]
        unfold l_nam
        by_cases w : (374 : Int) = 374 ∧ (0 ≤ y ∧ y < 200) ∧ ∃ c, a ≤ c ∧ c < i ∧ m 360 c = 8 ∧ m 361 c = y
        · rw [if_pos w]
          obtain ⟨_, w0, c, c1, c2, c3, c4⟩ := w
          rw [if_pos ⟨rfl, w0, c, c1, by omega, c3, c4⟩]
        · rw [if_neg w]
          rw [if_neg (fun u => ?_)]
          obtain ⟨_, u0, c, c1, c2, c3, c4⟩ := u
          by_cases qc : c = i
          · rw [qc] at c4; exact q c4.symm
          · exact w ⟨rfl, u0, c, c1, by omega, c3, c4⟩
  exact key (e - a).toNat a m (by omega) (Int.le_refl _) (fun _ _ _ => rfl) (fun y => (l_nam_n (fun ⟨c, c1, c2, _⟩ => by omega)).symm)
/-- the spans of a tree -/
def o_tr (g : s_g) (n : w_M) (a e : Int) : Prop := 0 ≤ a ∧ e ≤ n 428 15 ∧ ∀ b, a ≤ b → b < e → b < g.2.2.2.2.2 b ∧ g.2.2.2.2.2 b ≤ e ∧ ((n 432 b = 6 ∨ n 432 b = 7) → s_tl g.2.2.2.2.2 (b + 1) (g.2.1 b) (g.2.2.2.2.2 b)) ∧ (¬ (n 432 b = 6 ∨ n 432 b = 7) → g.2.2.2.2.2 b = b + 1) ∧ ((n 432 b = 6 ∨ n 432 b = 7) → ∀ t ∈ g.2.1 b, t < e)
theorem o_tr.tl {A E : Int} (h : o_tr g n A E) : ∀ (L : List Int) (s e : Int), A ≤ s → s_tl g.2.2.2.2.2 s L e → (∀ t ∈ L, t < E) → s ≤ e ∧ ∀ t ∈ L, s ≤ t ∧ g.2.2.2.2.2 t ≤ e := by
  intro L
  induction L with
  | nil =>
    intro s e _ hl _
    have : s = e := hl
    exact ⟨by omega, fun t ht => absurd ht (List.not_mem_nil)⟩
  | cons x L ih =>
    intro s e hA hl hE
    obtain ⟨l1, l2⟩ := hl
    subst l1
    have v := (h.2.2 x hA (hE x (List.mem_cons_self ..))).1
    obtain ⟨i1, i2⟩ := ih _ e (by omega) l2 (fun t ht => hE t (List.mem_cons_of_mem _ ht))
    refine ⟨by omega, fun t ht => ?_⟩
    rcases List.mem_cons.mp ht with q | q
    · rw [q]; exact ⟨Int.le_refl _, i1⟩
    · have := i2 t q
      exact ⟨by omega, this.2⟩
theorem r_nameAll {A E : Int} (h : s_st g m n) (ht : o_tr g n A E) : ∀ (K : Nat) (y : Int) (n1 : w_M) (Q : Int → w_M → Prop), (∀ i j : Int, i ≠ 461 → n1 i j = n i j) → g.2.2.2.2.1 y ≤ K → A ≤ y → y < E → Q 0 (o_nam n1 y (g.2.2.2.2.2 y)) → xc_m_nameAll (d + K + 1) y n1 Q := by
  have bd := h.1
  unfold s_bd at bd
  intro K
  induction K with
  | zero =>
    intro y n1 Q hf hr hA hE hQ
    obtain ⟨t0, t1, t2⟩ := ht
    obtain ⟨u1, u2, u3, u4, u5⟩ := t2 y hA hE
    have nd := h.2.1 y (by omega) (by omega)
    apply xr_m_nameAll
    rw [hf 432 y (by decide), hf 433 y (by decide), hf 436 y (by decide)]
    refine ⟨by omega, ?_⟩
    by_cases q8 : n 432 y = 8
    · rw [if_pos q8]
      have rf := nd.2.2.2.2.2.2.1 q8
      refine ⟨by omega, by omega, ?_⟩
      have sp : g.2.2.2.2.2 y = y + 1 := u4 (by omega)
      have e1 : w_up n1 461 (n 433 y) 1 = o_nam n1 y (g.2.2.2.2.2 y) := funext (fun a => funext (fun b => by
        rw [sp]
        by_cases q : a = 461
        · rw [q]
          by_cases qb : b = n 433 y
          · rw [qb, w_up_eq]
            exact (o_nam_y ⟨y, Int.le_refl _, by omega, by rw [hf _ _ (by decide)]; exact q8, hf _ _ (by decide)⟩).symm
          · rw [w_up_nb qb]
            refine (o_nam_n (fun ⟨c, c1, c2, c3, c4⟩ => qb ?_)).symm
            have : c = y := by omega
            rw [this, hf _ _ (by decide)] at c4
            exact c4.symm
        · rw [w_up_ne q, o_nam_o q]))
      rw [e1]
      exact hQ
    · rw [if_neg q8]
      have none67 : n 432 y = 6 ∨ n 432 y = 7 → xp_m_nameAll_55 (d + 0) (n 436 y) n1 Q := fun q67 => by
        have ls := (h.2.2.2.2 y (by omega) (by omega) q67).1
        have tl := u3 q67
        cases hL : g.2.1 y with
        | nil =>
          rw [hL] at tl
          have c1 := ls.1
          rw [hL] at c1
          have e1 : n 436 y = -1 := c1
          have e2 : g.2.2.2.2.2 y = y + 1 := by
            have : y + 1 = g.2.2.2.2.2 y := tl
            omega
          apply xr_m_nameAll_55
          rw [if_pos (by omega)]
          have : o_nam n1 y (g.2.2.2.2.2 y) = n1 := funext (fun a => funext (fun b => by
            by_cases q : a = 461
            · rw [q]
              refine o_nam_n (fun ⟨c, c1, c2, c3, c4⟩ => ?_)
              have : c = y := by omega
              rw [this, hf _ _ (by decide)] at c3
              omega
            · exact o_nam_o q))
          rw [this] at hQ
          exact hQ
        | cons z L =>
          have := (ls.2.2.1 z (by rw [hL]; exact List.mem_cons_self ..)).2
          exfalso
          have : ((0 : Nat) : Int) = 0 := rfl
          omega
      refine ⟨by omega, ?_⟩
      refine z_ite (fun q6 => ⟨by omega, none67 (Or.inl q6)⟩) (fun q6 => ⟨by omega, ?_⟩)
      refine z_ite (fun q7 => ⟨by omega, none67 (Or.inr q7)⟩) (fun q7 => ?_)
      have e2 : g.2.2.2.2.2 y = y + 1 := u4 (by omega)
      have : o_nam n1 y (g.2.2.2.2.2 y) = n1 := funext (fun a => funext (fun b => by
        by_cases q : a = 461
        · rw [q]
          refine o_nam_n (fun ⟨c, c1, c2, c3, c4⟩ => ?_)
          have : c = y := by omega
          rw [this, hf _ _ (by decide)] at c3
          omega
        · exact o_nam_o q))
      rw [this] at hQ
      exact hQ
  | succ K ih =>
    intro y n1 Q hf hr hA hE hQ
    obtain ⟨t0, t1, t2⟩ := ht
    obtain ⟨u1, u2, u3, u4, u5⟩ := t2 y hA hE
    have nd := h.2.1 y (by omega) (by omega)
    have drop : n 432 y ≠ 8 → o_nam n1 y (g.2.2.2.2.2 y) = o_nam n1 (y + 1) (g.2.2.2.2.2 y) := fun q8 => funext (fun a => funext (fun b => by
      by_cases q : a = 461
      · rw [q]
        by_cases z : ∃ c, y + 1 ≤ c ∧ c < g.2.2.2.2.2 y ∧ n1 432 c = 8 ∧ n1 433 c = b
        · rw [o_nam_y z]
          obtain ⟨c, c1, c2, c3, c4⟩ := z
          exact o_nam_y ⟨c, by omega, c2, c3, c4⟩
        · rw [o_nam_n z]
          refine o_nam_n (fun ⟨c, c1, c2, c3, c4⟩ => z ⟨c, ?_, c2, c3, c4⟩)
          by_cases q2 : c = y
          · rw [q2, hf _ _ (by decide)] at c3; exact absurd c3 q8
          · omega
      · rw [o_nam_o q, o_nam_o q]))
    apply xr_m_nameAll
    rw [hf 432 y (by decide), hf 433 y (by decide), hf 436 y (by decide)]
    refine ⟨by omega, ?_⟩
    by_cases q8 : n 432 y = 8
    · rw [if_pos q8]
      have rf := nd.2.2.2.2.2.2.1 q8
      refine ⟨by omega, by omega, ?_⟩
      have sp : g.2.2.2.2.2 y = y + 1 := u4 (by omega)
      have e1 : w_up n1 461 (n 433 y) 1 = o_nam n1 y (g.2.2.2.2.2 y) := funext (fun a => funext (fun b => by
        rw [sp]
        by_cases q : a = 461
        · rw [q]
          by_cases qb : b = n 433 y
          · rw [qb, w_up_eq]
            exact (o_nam_y ⟨y, Int.le_refl _, by omega, by rw [hf _ _ (by decide)]; exact q8, hf _ _ (by decide)⟩).symm
          · rw [w_up_nb qb]
            refine (o_nam_n (fun ⟨c, c1, c2, c3, c4⟩ => qb ?_)).symm
            have : c = y := by omega
            rw [this, hf _ _ (by decide)] at c4
            exact c4.symm
        · rw [w_up_ne q, o_nam_o q]))
      rw [e1]
      exact hQ
    · rw [if_neg q8]
      have dr := drop q8
      have kids : n 432 y = 6 ∨ n 432 y = 7 → xp_m_nameAll_55 (d + (K + 1)) (n 436 y) n1 Q := fun q67 => by
        have ls := (h.2.2.2.2 y (by omega) (by omega) q67).1
        have key : ∀ (L : List Int) (x s : Int) (n2 : w_M), s_ch n (n 428 15) x L → s_tl g.2.2.2.2.2 s L (g.2.2.2.2.2 y) → (∀ t ∈ L, t ∈ g.2.1 y) → y + 1 ≤ s → s ≤ g.2.2.2.2.2 y → (∀ i j : Int, i ≠ 461 → n2 i j = n i j) → Q 0 (o_nam n2 s (g.2.2.2.2.2 y)) → xp_m_nameAll_55 (d + (K + 1)) x n2 Q := by
          intro L
          induction L with
          | nil =>
            intro x s n2 hc hl hs s0 s1 hf2 hQ2
            have hx : x = -1 := hc
            have he : s = g.2.2.2.2.2 y := hl
            apply xr_m_nameAll_55
            rw [if_pos (by omega)]
            rw [he, o_nam_0] at hQ2
            exact hQ2
          | cons z L ihL =>
            intro x s n2 hc hl hs s0 s1 hf2 hQ2
            obtain ⟨c1, c2, c3, c4⟩ := hc
            subst c1
            obtain ⟨l1, l2⟩ := hl
            subst l1
            have zr := (ls.2.2.1 x (hs x (List.mem_cons_self ..))).2
            apply xr_m_nameAll_55
            rw [if_neg (by omega)]
            have qe : x < E := u5 q67 x (hs x (List.mem_cons_self ..))
            obtain ⟨v1, v2, v3, v4, v6⟩ := t2 x (by omega) qe
            have v5 := ((o_tr.tl ⟨t0, t1, t2⟩ (x :: L) x (g.2.2.2.2.2 y) (by omega) ⟨rfl, l2⟩ (fun t ht => u5 q67 t (hs t ht))).2 x (List.mem_cons_self ..)).2
            refine ih x n2 _ hf2 (by omega) (by omega) qe ?_
            rw [o_nam_o (by decide), hf2 437 x (by decide)]
            refine ⟨by omega, ?_⟩
            refine ihL _ (g.2.2.2.2.2 x) _ c4 l2 (fun t ht => hs t (List.mem_cons_of_mem _ ht)) (by omega) v5 (fun i j q => by rw [o_nam_o q]; exact hf2 i j q) ?_
            rw [o_nam_tr (by omega) v5]
            exact hQ2
        rw [dr] at hQ
        exact key (g.2.1 y) _ (y + 1) n1 ls.1 (u3 q67) (fun t ht => ht) (Int.le_refl _) (by omega) hf hQ
      refine ⟨by omega, ?_⟩
      refine z_ite (fun q6 => ⟨by omega, kids (Or.inl q6)⟩) (fun q6 => ⟨by omega, ?_⟩)
      refine z_ite (fun q7 => ⟨by omega, kids (Or.inr q7)⟩) (fun q7 => ?_)
      have e2 : g.2.2.2.2.2 y = y + 1 := u4 (by omega)
      rw [dr, e2, o_nam_0] at hQ
      exact hQ
end OG
