/-! ===== a section, both sides: what stands around it ===== -/
/-- what loading leaves alone: the class, the reference -/
def l_cf (m m' : w_M) : Prop := ∀ i j : Int, ¬ (i = 359 ∧ (j = 6 ∨ j = 7)) → ¬ (360 ≤ i ∧ i ≤ 364 ∧ 41 ≤ j) → ¬ (i = 365 ∧ 8512 ≤ j) → ¬ (367 ≤ i ∧ i ≤ 369) → ¬ (376 ≤ i ∧ i ≤ 393) → m' i j = m i j
def l_mf (n n' : w_M) : Prop := ∀ i j : Int, ¬ (i = 428 ∧ ¬ (j = 1 ∨ j = 3 ∨ j = 5 ∨ j = 6 ∨ j = 32 ∨ j = 34 ∨ j = 67 ∨ 80 ≤ j)) → ¬ (432 ≤ i ∧ i ≤ 454) → ¬ (463 ≤ i ∧ i ≤ 467) → n' i j = n i j
/-- both read the file; no fault -/
def e_X (g : s_g) (m n : w_M) (W : Int → Int) (L : Int) : Prop :=
  s_st g m n ∧ s_kw m ∧ (∃ p, e_J m W L p) ∧ m 376 3 = 0 ∧ m 376 10 = 1 ∧ m 376 6 = 0 ∧ e_F n W L ∧ n 428 27 = 0 ∧ s_ct m n 376 ∧
  (n 428 32 ≠ 0 ∧ m 376 9 = 8512 ∧ m 359 7 = 8512 + n 428 31 ∧ 0 ≤ n 428 31 ∧ n 428 31 ≤ 60000 ∧ n 428 17 = n 428 31)
/-- an object's number in both -/
def e_nu (m n : w_M) (k : Int) : Prop := (n 454 k = 0 ∧ n 451 k = 0 ∧ m 367 k = 0) ∨ (n 454 k = 1 ∧ e_al (m 367 k) (m 368 k) (m 369 k) (n 451 k) (n 452 k) (n 453 k))
/-- the trailer in both -/
def e_tl (g : s_g) (m n : w_M) : Prop := 0 ≤ n 428 64 ∧ n 428 64 < n 428 15 ∧ n 432 (n 428 64) = 7 ∧ m 391 7 = g.1 (n 428 64) ∧ z_wh g n (n 428 64) 32 (-1) = n 428 60 ∧ g.2.2.2.2.1 (n 428 64) = 21 ∧ g.2.2.1 (n 428 64) = -1 ∧ m 391 10 = n 428 63 ∧
  g.2.2.2.2.2 (n 428 64) ≤ n 428 15 ∧ m 391 9 ≤ m 359 6 ∧ 0 ≤ m 391 8 ∧ s_rg g m n (m 391 8) (n 428 64) (m 391 9) (g.2.2.2.2.2 (n 428 64)) ∧ n 428 64 < g.2.2.2.2.2 (n 428 64) ∧ ∀ b, n 428 64 ≤ b → b < g.2.2.2.2.2 (n 428 64) → g.1 b < m 391 9 ∧ ((n 432 b = 6 ∨ n 432 b = 7) → ∀ t ∈ g.2.1 b, t < g.2.2.2.2.2 (n 428 64))
/-- between sections -/
def e_Y (g : s_g) (m n : w_M) (W : Int → Int) (L : Int) : Prop :=
  e_X g m n W L ∧ (0 ≤ n 428 34 ∧ n 428 34 ≤ 49000) ∧ m 391 6 = n 428 61 ∧ (0 ≤ n 428 61 ∧ n 428 61 ≤ 10) ∧ (∀ i, 0 ≤ i → i < n 428 61 → m 392 i = n 463 i) ∧
  (n 428 61 = 0 → n 428 60 = 0 ∧ ∀ k, 1 ≤ k → k < 200 → n 454 k = 0 ∧ n 451 k = 0 ∧ m 367 k = 0) ∧ (n 428 61 ≠ 0 → (1 ≤ n 428 60 ∧ n 428 60 ≤ 200) ∧ (∀ k, 1 ≤ k → k < n 428 60 → e_nu m n k) ∧ e_tl g m n) ∧ ∀ k, 0 ≤ k → k < 200 → (k < 1 ∨ n 428 60 ≤ k) → n 451 k = 0
section SE
variable {d : Nat} {g g' : s_g} {m m' m1 m2 n n' n1 n2 : w_M} {Q : Int → w_M → Prop} {W : Int → Int} {L p a b B v e : Int}
theorem l_cf.rf : l_cf m m := fun _ _ _ _ _ _ _ => rfl
theorem l_cf.tr (h : l_cf m m') (h2 : l_cf m' m2) : l_cf m m2 := fun i j q1 q2 q3 q4 q5 => (h2 i j q1 q2 q3 q4 q5).trans (h i j q1 q2 q3 q4 q5)
theorem l_mf.rf : l_mf n n := fun _ _ _ _ _ => rfl
theorem l_mf.tr (h : l_mf n n') (h2 : l_mf n' n2) : l_mf n n2 := fun i j q1 q2 q3 => (h2 i j q1 q2 q3).trans (h i j q1 q2 q3)
theorem e_cf.l (h : e_cf m m') : l_cf m m' := fun i j q1 q2 q3 q4 q5 => h i j (by omega) (by omega) (by omega)
theorem c_ch.l (h : c_ch m m' 376) : l_cf m m' := fun i j q1 q2 q3 q4 q5 => h i j (by omega)
theorem z_cf.l (h : z_cf m m') : l_cf m m' := fun i j q1 q2 q3 q4 q5 => h i j (by omega) (by omega) (by omega) (by omega)
theorem s_fp.l (h : s_fp m m' 376) (hb : s_bd m n) : l_cf m m' := by
  unfold s_bd at hb
  exact fun i j q1 q2 q3 q4 q5 => h.2.2 i j (by omega) (by omega) (by omega) (by omega)
theorem e_mf.l (h : e_mf n n') : l_mf n n' := fun i j q1 q2 q3 => h i j (by omega) (by omega) (by omega)
theorem e_ma.l (h : e_ma n n') : l_mf n n' := fun i j q1 q2 q3 => h i j (by omega) (by omega)
theorem m_ag.l (h : m_ag n n') : l_mf n n' := h.ema.l
theorem e_mh.l (h : e_mh n n') : l_mf n n' := fun i j q1 q2 q3 => h i j (by omega) (by omega)
theorem e_tf.l (h : e_tf n n') : l_mf n n' := fun i j q1 q2 q3 => h i j (by omega) (by omega)
theorem s_fr.l (h : s_fr n n') : l_mf n n' := fun i j q1 q2 q3 => h.2.2 i j (by omega) (by omega) (by omega)
theorem z_mf.l (h : z_mf n n') : l_mf n n' := fun i j q1 q2 q3 => h i j (by omega) (by omega)
theorem z_mg.l (h : z_mg n n') : l_mf n n' := fun i j q1 q2 q3 => h i j (by omega) (by omega) (by omega)
theorem m_fl_l {c v : Int} : l_mf n (m_fl n c v) := m_fl_emh.l
theorem r_ns0 {x y : Int} (hx : 0 ≤ x) : w_ns [(2, x), (0, 0)] := by
  intro v hv
  rcases List.mem_cons.mp hv with e | hv
  · subst e; exact hx
  · rcases List.mem_cons.mp hv with e | hv
    · subst e; show (-2147483648 : Int) ≤ 0 ∧ (0 : Int) < 2147483648; decide
    · cases hv
/-- an object: both read it, or both fail -/
theorem s_objE (h : s_J g m n 376 W L p) (hm : w_nm (w_G0 sC) m) (hn : w_nm (w_G0 sM) n) (hrf : m 376 10 = 1) (htk : m_tk n W L (e_kw W L p)) :
    ∃ r m1 r' n1, xc_ps_object (d + 54) 376 0 m (w_q r m1) ∧ w_nm (w_G0 sC) m1 ∧ xc_m_object (d + 54) 0 1 n (w_q r' n1) ∧ s_R g m n m1 n1 376 W L p r r' 21 := by
  have ob := s_object (d := d) (P := 376) (W := W) (L := L) (refs := 1) (by decide) (L - p + 1).toNat 20 (by decide)
  have run : xc_ps_object (d + 2 * 20 + 14) 376 0 m (fun r m1 => ∃ r' n1, xc_m_object (d + 2 * 20 + 14) 0 1 n (w_q r' n1) ∧ s_R g m n m1 n1 376 W L p r r' 21) :=
    ob 0 p g m n _ (by have := h.2.1.bd; omega) (by decide) h hn hrf htk (fun r m1 r' n1 hr hp => ⟨r', n1, hr, hp⟩)
  obtain ⟨r, m1, y1, y2, r', n1, y3, y4⟩ := r_get run hm (r_ns0 (by decide) (y := 0))
  exact ⟨r, m1, r', n1, y1, y2, y3, y4⟩
/-- ghosts only grow: trailers, numbers stay -/
theorem s_tl.frx {f f' : Int → Int} : ∀ (l : List Int) (x y : Int), s_tl f x l y → (∀ z ∈ l, f' z = f z) → s_tl f' x l y := by
  intro l
  induction l with
  | nil => intro x y t _; exact t
  | cons u l ih =>
    intro x y t h
    obtain ⟨t1, t2⟩ := t
    exact ⟨t1, by rw [h u (List.mem_cons_self ..)]; exact ih _ _ t2 (fun z hz => h z (List.mem_cons_of_mem _ hz))⟩
theorem s_rg.frx {C N C1 N1 : Int} (h : s_rg g m n C N C1 N1) (hst : s_st g m n) (hex : s_ex g g' (n 428 15)) (hc : s_cf m m') (hmf : s_mf n n') (h0 : 0 ≤ N) (hN : N1 ≤ n 428 15) (hC : C1 ≤ m 359 6) (hC0 : 0 ≤ C) : s_rg g' m' n' C N C1 N1 := by
  obtain ⟨h1, h2⟩ := h
  refine ⟨fun b q1 q2 => ?_, fun c q1 q2 => ?_⟩
  · obtain ⟨e1, e2, e3, e4, e5, e6⟩ := hex b (by omega) (by omega)
    obtain ⟨a1, a2, a3, a4, a5, a6⟩ := h1 b q1 q2
    rw [e1, e2, e4, e6, hmf.2.2.1 432 b (by decide) (by decide) (by omega) (by omega)]
    refine ⟨a1, a2, a3, a4, fun z => ?_, a6⟩
    have mem := (hst.2.2.2.2 b (by omega) (by omega) z).1.1.mem
    exact (a5 z).frx _ _ _ (fun y hy => (hex y (mem y hy).1 (mem y hy).2).2.2.2.2.2)
  · rcases h2 c q1 q2 with ⟨b, b1, b2, b3⟩ | z
    · exact Or.inl ⟨b, b1, b2, by rw [(hex b (by omega) (by omega)).1]; exact b3⟩
    · exact Or.inr (by rw [hc.2.2.1 360 c (by decide) (by decide) (by omega) (by omega)]; exact z)
theorem z_wh.fr {q k w : Int} (hst : s_st g m n) (hex : s_ex g g' (n 428 15)) (hmf : s_mf n n') (hq : 0 ≤ q ∧ q < n 428 15) (h7 : n 432 q = 7) : z_wh g' n' q k w = z_wh g n q k w := by
  have e2 := (hex q hq.1 hq.2).2.1
  have di := hst.di hq h7
  have fd : ∀ (l : List Int) (L : List Int), (∀ y ∈ L, 0 ≤ y ∧ y < n 428 15 ∧ 0 ≤ m 364 (g.1 y)) → s_fd n' l L = s_fd n l L := by
    intro l L
    induction L with
    | nil => intro _; rfl
    | cons y L ih =>
      intro hm
      have y0 := hm y (List.mem_cons_self ..)
      have nd := hst.2.1 y y0.1 y0.2.1
      have e8 := hmf.2.2.1 438 y (by decide) (by decide) y0.1 y0.2.1
      have e9 := hmf.2.2.1 439 y (by decide) (by decide) y0.1 y0.2.1
      have ky := nd.2.2.2.2.2.2.2.2.2.2
      have e : s_is n' (n' 438 y) (n' 439 y) l ↔ s_is n (n 438 y) (n 439 y) l := by
        rw [e8, e9]
        unfold s_is
        have cell : ∀ i : Nat, n 439 y = l.length → i < l.length → n' 440 (n 438 y + i) = n 440 (n 438 y + i) := by
          intro i h1 h2
          rcases ky with w | ⟨_, _, _, _, t1, t2, t3, t4, t5, t6⟩
          · omega
          · exact hmf.2.2.2 _ (by omega)
        constructor
        · intro ⟨h1, h2⟩
          exact ⟨h1, fun i hi => by rw [← cell i h1 hi]; exact h2 i hi⟩
        · intro ⟨h1, h2⟩
          exact ⟨h1, fun i hi => by rw [cell i h1 hi]; exact h2 i hi⟩
      by_cases z : s_is n (n 438 y) (n 439 y) l
      · rw [s_fd_y z, s_fd_y (e.mpr z)]
      · rw [s_fd_n z, s_fd_n (fun w => z (e.mp w)), ih (fun u hu => hm u (List.mem_cons_of_mem _ hu))]
  have f := fd (s_wd k) (g.2.1 q) (fun y hy => by have := di.2.2 y hy; exact ⟨this.1, this.2.1, this.2.2.1⟩)
  unfold z_wh
  rw [e2, f]
  rcases s_fd_r n (s_wd k) (g.2.1 q) with z | z
  · rw [z, if_pos (by decide), if_pos (by decide)]
  · have := di.2.2 _ z
    rw [hmf.2.2.1 432 _ (by decide) (by decide) this.1 this.2.1, hmf.2.2.1 433 _ (by decide) (by decide) this.1 this.2.1]
/-- both stand in the file at p -/
theorem e_X.J (h : e_X g m n W L) (hj : e_J m' W L p) (hst : s_st g m' n') (h6 : m' 376 6 = 0) (h27 : n' 428 27 = 0) (hv : v_m n' W L) (h18 : n' 428 18 = 430) (he : ∀ j : Int, j = 8 ∨ j = 9 → m' 376 j = m 376 j) (hm6 : m' 359 6 = m 359 6) (hm7 : m' 359 7 = m 359 7) (hn : ∀ j : Int, j = 15 ∨ j = 17 ∨ j = 29 ∨ j = 30 ∨ j = 31 ∨ j = 32 → n' 428 j = n 428 j) : s_J g m' n' 376 W L p := by
  obtain ⟨a1, a2, a3, a4, a5, a6, a7, a8, a9, b1, b2, b3, b4, b5, b6⟩ := h
  have bd := hj.1.bd
  refine ⟨hst, hj.1, by rw [hj.2]; decide, hv, Or.inl h18, h6, h27, ?_, ?_, ?_⟩
  · unfold s_ct at a9 ⊢
    rw [hm6, he 8 (by decide), hn 29 (by decide), hn 30 (by decide), hn 15 (by decide)]
    exact a9
  · unfold s_md
    rw [hm7, he 9 (by decide), hn 31 (by decide), hn 32 (by decide), hn 17 (by decide)]
    exact Or.inl ⟨b1, b2, b3, b4, b5, b6⟩
  · have := a7.2.1
    rw [hn 17 (by decide), b6]
    omega
end SE
