/-! ===== parts one by one; a name that comes twice: the reference ===== -/
/-- an array or dict that is being read: begun at m0, n0; l are its parts so far -/
def s_LI (g0 g : s_g) (m0 n0 m n : w_M) (P : Int) (W : Int → Int) (L q R k : Int) (l : List Int) : Prop :=
  s_J g m n P W L q ∧ s_ex g0 g (n0 428 15) ∧ s_fp m0 m P ∧ s_fr n0 n ∧ n0 428 15 < n 428 15 ∧ m0 359 6 < m 359 6 ∧
  n 432 (n0 428 15) = k ∧ (k = 6 ∨ k = 7) ∧ g.2.1 (n0 428 15) = l ∧ g.1 (n0 428 15) = m0 359 6 ∧ g.2.2.2.2.1 (n0 428 15) = R ∧ g.2.2.1 (n0 428 15) = -1 ∧ g.2.2.2.1 (n0 428 15) = n0 428 15 ∧ n 437 (n0 428 15) = -1 ∧ m 364 (m0 359 6) = -1 ∧
  s_rg g m n (m0 359 6 + 1) (n0 428 15 + 1) (m 359 6) (n 428 15) ∧ s_tl g.2.2.2.2.2 (n0 428 15 + 1) l (n 428 15) ∧ (∀ y ∈ l, n0 428 15 < y) ∧ 0 ≤ n0 428 15 ∧
  (∀ b, 0 ≤ b → b < n0 428 15 → (n0 432 b = 6 ∨ n0 432 b = 7) → g0.2.2.2.1 b < n0 428 15)
/-- the names of a dict's entries so far are numbered -/
def s_nb (g : s_g) (m : w_M) (l : List Int) : Prop := ∀ y ∈ l, s_tn m (m 364 (g.1 y)) ∧ m 363 (m 364 (g.1 y)) = s_hs m (m 361 (m 364 (g.1 y))) (m 362 (m 364 (g.1 y))).toNat
theorem s_tl.app {f f' : Int → Int} {e : Int} : ∀ {l : List Int} {x y : Int}, s_tl f x l y → (∀ z ∈ l, f' z = f z) → f' y = e → s_tl f' x (l ++ [y]) e := by
  intro l
  induction l with
  | nil =>
    intro x y h1 h2 h3
    have h1 : x = y := h1
    exact ⟨h1.symm, h3⟩
  | cons z l ih =>
    intro x y h1 h2 h3
    obtain ⟨a1, a2⟩ := h1
    exact ⟨a1, by rw [h2 z (List.mem_cons_self ..)]; exact ih a2 (fun w hw => h2 w (List.mem_cons_of_mem _ hw)) h3⟩
theorem s_tl.fr {f f' : Int → Int} {e : Int} : ∀ {l : List Int} {x : Int}, s_tl f x l e → (∀ z ∈ l, f' z = f z) → s_tl f' x l e := by
  intro l
  induction l with
  | nil => intro x h1 h2; exact h1
  | cons z l ih =>
    intro x h1 h2
    obtain ⟨a1, a2⟩ := h1
    exact ⟨a1, by rw [h2 z (List.mem_cons_self ..)]; exact ih a2 (fun w hw => h2 w (List.mem_cons_of_mem _ hw))⟩
section PT
variable {g g0 g1 g' : s_g} {m m0 m' m1 m2 n n0 n' n1 n2 : w_M} {P L p q e k a b s c D refs R : Int} {W : Int → Int} {l : List Int} {Q : Int → w_M → Prop} {d d' : Nat}
theorem s_rg.fr {C N C1 N1 : Int} (h : s_rg g m n C N C1 N1) (hg : ∀ b, N ≤ b → b < N1 → g'.1 b = g.1 b ∧ g'.2.1 b = g.2.1 b ∧ g'.2.2.2.1 b = g.2.2.2.1 b ∧ g'.2.2.2.2.2 b = g.2.2.2.2.2 b) (hm : ∀ c, C ≤ c → c < C1 → m1 360 c = m 360 c) (hn : ∀ b, N ≤ b → b < N1 → n1 432 b = n 432 b) (hz : ∀ b, N ≤ b → b < N1 → (n 432 b = 6 ∨ n 432 b = 7) → ∀ z ∈ g.2.1 b, g'.2.2.2.2.2 z = g.2.2.2.2.2 z) : s_rg g' m1 n1 C N C1 N1 := by
  obtain ⟨h1, h2⟩ := h
  refine ⟨fun b q1 q2 => ?_, fun c q1 q2 => ?_⟩
  · obtain ⟨a1, a2, a3, a4, a5, a6⟩ := h1 b q1 q2
    obtain ⟨e1, e2, e3, e4⟩ := hg b q1 q2
    rw [e1, e2, e3, e4, hn b q1 q2]
    exact ⟨a1, a2, a3, a4, fun z => (a5 z).fr (hz b q1 q2 z), a6⟩
  · rcases h2 c q1 q2 with ⟨b, b1, b2, b3⟩ | z
    · exact Or.inl ⟨b, b1, b2, (hg b b1 b2).1.trans b3⟩
    · exact Or.inr (by rw [hm c q1 q2]; exact z)
theorem s_rg.app {C N C1 N1 C2 N2 : Int} (h : s_rg g m n C N C1 N1) (h2 : s_rg g m n C1 N1 C2 N2) (hC : C ≤ C1) (hN0 : N ≤ N1) (hN : N1 ≤ N2) : s_rg g m n C N C2 N2 := by
  obtain ⟨a1, a2⟩ := h
  obtain ⟨b1, b2⟩ := h2
  refine ⟨fun b q1 q2 => ?_, fun c q1 q2 => ?_⟩
  · by_cases z : b < N1
    · obtain ⟨c1, c2, c3, c4, c5⟩ := a1 b q1 z
      exact ⟨c1, c2, c3, by omega, c5⟩
    · obtain ⟨c1, c2, c3, c4, c5⟩ := b1 b (by omega) q2
      exact ⟨by omega, c2, c3, c4, c5⟩
  · by_cases z : c < C1
    · rcases a2 c q1 z with ⟨b, y1, y2, y3⟩ | y
      · exact Or.inl ⟨b, y1, by omega, y3⟩
      · exact Or.inr y
    · rcases b2 c (by omega) q2 with ⟨b, y1, y2, y3⟩ | y
      · exact Or.inl ⟨b, by omega, y2, y3⟩
      · exact Or.inr y
/-- a part more -/
theorem s_LI.step {z Ck : Int} (h : s_LI g0 g m0 n0 m n P W L q R k l) (hz0 : (l = [] ∧ z = -1) ∨ (z ∈ l ∧ n 437 z = -1))
    (hJ : s_J g1 m1 n1 P W L e) (he : q ≤ e) (hex : s_ex g g1 (n 428 15)) (hfp : s_fp m m1 P) (hfr : s_fr n n1)
    (t1 : g1.1 (n 428 15) = Ck) (t2 : g1.2.2.2.2.1 (n 428 15) = R - 1) (hR1 : 1 ≤ R) (t3 : g1.2.2.1 (n 428 15) = -1) (t4 : n1 437 (n 428 15) = -1) (t5 : g1.2.2.2.2.2 (n 428 15) = n1 428 15) (t6 : n 428 15 < n1 428 15) (t7 : m 359 6 ≤ Ck ∧ Ck < m1 359 6)
    (trg : s_rg g1 m1 n1 (m 359 6) (n 428 15) (m1 359 6) (n1 428 15))
    (hd : k = 7 → 0 ≤ m1 364 Ck ∧ ∀ w ∈ l, ¬ s_ke n1 w (n 428 15))
    (hm : ∀ i j : Int, ¬ (i = 363 ∧ z ∈ l ∧ j = g.1 z) → ¬ ((i = 361 ∨ i = 362) ∧ j = m0 359 6) → m2 i j = m1 i j)
    (hn : ∀ i j : Int, ¬ (i = 437 ∧ z ∈ l ∧ j = z) → ¬ ((i = 435 ∨ i = 436) ∧ j = n0 428 15) → n2 i j = n1 i j)
    (hm1 : m2 361 (m0 359 6) = if l = [] then Ck else m1 361 (m0 359 6)) (hm2 : m2 362 (m0 359 6) = l.length + 1) (hm3 : z ∈ l → m2 363 (g.1 z) = Ck)
    (hn1 : n2 436 (n0 428 15) = if l = [] then n 428 15 else n1 436 (n0 428 15)) (hn2 : n2 435 (n0 428 15) = l.length + 1) (hn3 : z ∈ l → n2 437 z = n 428 15) :
    s_LI g0 (s_ga g1 (n0 428 15) (n 428 15)) m0 n0 m2 n2 P W L e R k (l ++ [n 428 15]) ∧ n2 437 (n 428 15) = -1 := by
  obtain ⟨a1, a2, a3, a4, a5, a6, a7, a8, a9, b1, b2, b3, b4, b5, b6, b7, b8, b9, b10, b11⟩ := h
  have hP := a1.2.1.1.2.1
  have hP' := w_isP_o hP
  have st := a1.1
  have st1 := hJ.1
  have eN0 := hex (n0 428 15) b10 (by omega)
  obtain ⟨f1, f2, f3, f4, f5, f6⟩ := eN0
  -- the list stands in g1 as in g
  have n1_432 : ∀ b, 0 ≤ b → b < n 428 15 → n1 432 b = n 432 b := fun b q1 q2 => hfr.mf.2.2.1 432 b (by decide) (by decide) q1 q2
  have n1_437 : ∀ b, 0 ≤ b → b < n 428 15 → n1 437 b = n 437 b := fun b q1 q2 => hfr.mf.2.2.1 437 b (by decide) (by decide) q1 q2
  have k1 : n1 432 (n0 428 15) = 6 ∨ n1 432 (n0 428 15) = 7 := by rw [n1_432 _ b10 (by omega), a7]; exact a8
  obtain ⟨ls, lc⟩ := st.2.2.2.2 (n0 428 15) b10 (by omega) (by rw [a7]; exact a8)
  obtain ⟨ls1, ls2, ls3, ls4⟩ := ls
  rw [a9] at ls1 ls3
  have mem := ls1.mem
  have gf : ∀ b, 0 ≤ b → b < n 428 15 → g1.1 b = g.1 b := fun b q1 q2 => (hex b q1 q2).1
  have hb1 := st1.1
  have app : s_st (s_ga g1 (n0 428 15) (n 428 15)) m2 n2 := by
    refine s_app (z := z) (l := l) st1 ⟨b10, by omega⟩ k1 (f2.trans a9) ⟨by omega, t6⟩ t3 t4 (by rw [t2, f5, b2]; omega) (fun b q1 q2 q3 q4 => ?_) (fun q7 => ?_) ?_ ?_ (fun i j i1 i2 y1 y2 => hm i j (fun w => y1 ⟨w.1, w.2.1, by rw [gf z (mem z w.2.1).1 (mem z w.2.1).2]; exact w.2.2⟩) (fun w => y2 ⟨w.1, by rw [f1, b1]; exact w.2⟩)) (fun i j i1 i2 y1 y2 => hn i j y1 y2) ?_ ?_ ?_ ?_
    · rw [f4, b4]
      by_cases w : b < n0 428 15
      · have e1 := (hex b q1 (by omega)).2.2.2.1
        have e2 := (a2 b q1 w).2.2.2.1
        rw [e1, e2]
        have k0 : n0 432 b = 6 ∨ n0 432 b = 7 := by
          rw [n1_432 b q1 (by omega), a4.mf.2.2.1 432 b (by decide) (by decide) q1 w] at q3
          exact q3
        have := b11 b q1 w k0
        omega
      · by_cases w2 : b < n 428 15
        · have e1 := (hex b q1 (by omega)).2.2.2.1
          rw [e1, (b7.1 b (by omega) w2).2.1]
          exact q4
        · rw [(trg.1 b (by omega) q2).2.1]
          omega
    · rw [t1]
      rw [n1_432 _ b10 (by omega), a7] at q7
      exact hd q7
    · refine ⟨hm _ _ (by omega) (by omega), hm _ _ (by omega) (by omega), hn _ _ (by omega) (by omega), hn _ _ (by omega) (by omega), fun b => hm _ _ (by omega) (by omega), fun b => hn _ _ (by omega) (by omega)⟩
    · rcases hz0 with w | ⟨w1, w2⟩
      · exact Or.inl w
      · refine Or.inr ⟨w1, ?_, ?_, hn3 w1⟩
        · rw [n1_437 z (mem z w1).1 (mem z w1).2]; exact w2
        · rw [gf z (mem z w1).1 (mem z w1).2, t1]; exact hm3 w1
    · rw [f1, b1, t1]; exact hm1
    · rw [f1, b1]; exact hm2
    · exact hn1
    · exact hn2
  have hwin := c_win hJ.2.1 hJ.2.2.1
  have e428 : ∀ j : Int, n2 428 j = n1 428 j := fun j => hn _ _ (by omega) (by omega)
  have eP : ∀ j : Int, m2 P j = m1 P j := fun j => hm _ _ (by omega) (by omega)
  have e359 : ∀ j : Int, m2 359 j = m1 359 j := fun j => hm _ _ (by omega) (by omega)
  have J2 : s_J (s_ga g1 (n0 428 15) (n 428 15)) m2 n2 P W L e := by
    obtain ⟨i1, i2, i3, i4, i5, i6, i7, i8, i9, i10⟩ := hJ
    refine ⟨app, i2.far eP (fun j => hm _ _ (by omega) (by omega)), by rw [eP]; exact i3, i4.far (fun j _ _ => e428 j) (fun j => hn _ _ (by omega) (by omega)), by rw [e428]; exact i5, by rw [eP]; exact i6, by rw [e428]; exact i7, ?_, ?_, by rw [e428]; exact i10⟩
    · unfold s_ct at i8 ⊢
      rw [e359, eP, e428, e428, e428]
      exact i8
    · unfold s_md at i9 ⊢
      rw [e359, eP, e428, e428, e428]
      exact i9
  have ga1 : ∀ b : Int, (s_ga g1 (n0 428 15) (n 428 15)).1 b = g1.1 b := fun _ => rfl
  have gaS : ∀ b : Int, (s_ga g1 (n0 428 15) (n 428 15)).2.2.2.2.2 b = g1.2.2.2.2.2 b := fun _ => rfl
  have gaI : ∀ b : Int, (s_ga g1 (n0 428 15) (n 428 15)).2.2.2.1 b = g1.2.2.2.1 b := fun _ => rfl
  have gaC : ∀ b : Int, b ≠ n0 428 15 → (s_ga g1 (n0 428 15) (n 428 15)).2.1 b = g1.2.1 b := fun b w => if_neg w
  have gaO : ∀ b : Int, b ≠ n 428 15 → (s_ga g1 (n0 428 15) (n 428 15)).2.2.1 b = g1.2.2.1 b := fun b w => if_neg w
  have e432 : ∀ b : Int, n2 432 b = n1 432 b := fun b => hn _ _ (by omega) (by omega)
  have e360 : ∀ b : Int, m2 360 b = m1 360 b := fun b => hm _ _ (by omega) (by omega)
  have n437 : n2 437 (n 428 15) = -1 := by
    rw [hn _ _ (fun w => by have := (mem z w.2.1).2; omega) (by omega)]; exact t4
  have zC : z ∈ l → m0 359 6 + 1 ≤ g.1 z := fun w => (b7.1 z (by have := b9 z w; omega) (mem z w).2).1
  have r1 : s_rg g1 m1 n1 (m0 359 6 + 1) (n0 428 15 + 1) (m 359 6) (n 428 15) := by
    refine b7.fr (fun b q1 q2 => ?_) (fun c q1 q2 => (hfp.cf hP).2.2.1 360 c (by decide) (by decide) (by have := st.1; unfold s_bd at this; have := (st.2.1 (n0 428 15) b10 (by omega)).1; omega) q2) (fun b q1 q2 => n1_432 b (by omega) q2) (fun b q1 q2 hk w hw => ?_)
    · obtain ⟨y1, y2, y3, y4, y5, y6⟩ := hex b (by omega) q2
      exact ⟨y1, y2, y4, y6⟩
    · have wm := (st.2.2.2.2 b (by omega) q2 hk).1.1.mem w hw
      exact (hex w wm.1 wm.2).2.2.2.2.2
  have r2 := r1.app trg (by omega) (by omega) (by omega)
  have r3 : s_rg (s_ga g1 (n0 428 15) (n 428 15)) m2 n2 (m0 359 6 + 1) (n0 428 15 + 1) (m1 359 6) (n1 428 15) :=
    r2.fr (fun b q1 q2 => ⟨rfl, gaC b (by omega), rfl, rfl⟩) (fun c _ _ => e360 c) (fun b _ _ => e432 b) (fun _ _ _ _ _ _ => rfl)
  refine ⟨⟨J2, ?_, ?_, ?_, by rw [e428]; omega, by rw [e359]; omega, ?_, a8, ?_, ?_, ?_, ?_, ?_, ?_, ?_, ?_, ?_, ?_, b10, b11⟩, n437⟩
  · intro b q1 q2
    obtain ⟨x1, x2, x3, x4, x5, x6⟩ := a2 b q1 q2
    obtain ⟨y1, y2, y3, y4, y5, y6⟩ := hex b q1 (by omega)
    exact ⟨y1.trans x1, (gaC b (by omega)).trans (y2.trans x2), (gaO b (by omega)).trans (y3.trans x3), y4.trans x4, y5.trans x5, y6.trans x6⟩
  · have x := a3.tr hfp
    exact ⟨by rw [e359]; exact x.1, by rw [e359]; exact x.2.1, fun i j q1 q2 q3 q4 => (hm i j (fun w => by have := zC w.2.1; omega) (fun w => by omega)).trans (x.2.2 i j q1 q2 q3 q4)⟩
  · have x := a4.tr hfr
    exact ⟨by rw [e428]; exact x.1, by rw [e428]; exact x.2.1, fun i j q1 q2 q3 => (hn i j (fun w => by have := b9 z w.2.1; omega) (fun w => by omega)).trans (x.2.2 i j q1 q2 q3)⟩
  · rw [e432, n1_432 _ b10 (by omega)]; exact a7
  · show (if n0 428 15 = n0 428 15 then g1.2.1 (n0 428 15) ++ [n 428 15] else _) = _
    rw [if_pos rfl, f2, a9]
  · exact f1.trans b1
  · exact f5.trans b2
  · exact (gaO _ (by omega)).trans (f3.trans b3)
  · exact f4.trans b4
  · rw [hn _ _ (fun w => by have := b9 z w.2.1; omega) (by omega), n1_437 _ b10 (by omega)]; exact b5
  · rw [hm _ _ (by omega) (by omega), (hfp.cf hP).2.2.1 364 _ (by decide) (by decide) (by have := (st.2.1 (n0 428 15) b10 (by omega)).1; omega) a6]; exact b6
  · rw [e359, e428]; exact r3
  · rw [e428]
    exact b8.app (fun w hw => (hex w (mem w hw).1 (mem w hw).2).2.2.2.2.2) t5
  · intro y hy
    rcases List.mem_append.mp hy with hy | hy
    · exact b9 y hy
    · rw [List.mem_singleton.mp hy]; exact a5
end PT
