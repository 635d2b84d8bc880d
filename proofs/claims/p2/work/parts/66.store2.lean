/-! ===== a node comes; a part comes behind the last one; a part is named ===== -/
/-- with the new node N, which is C in the class, R deep -/
def s_gn (g : s_g) (N C R : Int) : s_g := (fun b => if b = N then C else g.1 b, fun b => if b = N then [] else g.2.1 b, fun b => if b = N then -1 else g.2.2.1 b, fun b => if b = N then N else g.2.2.2.1 b, fun b => if b = N then R else g.2.2.2.2.1 b, fun b => if b = N then N + 1 else g.2.2.2.2.2 b)
/-- y becomes the last part of a -/
def s_ga (g : s_g) (a y : Int) : s_g := (g.1, fun b => if b = a then g.2.1 a ++ [y] else g.2.1 b, fun b => if b = y then g.2.2.2.1 a else g.2.2.1 b, g.2.2.2.1, g.2.2.2.2)
/-- tops of the stores, bytes: the same -/
def s_sm (m m' n n' : w_M) : Prop := m' 359 6 = m 359 6 ∧ m' 359 7 = m 359 7 ∧ n' 428 15 = n 428 15 ∧ n' 428 17 = n 428 17 ∧ (∀ b, m' 365 b = m 365 b) ∧ ∀ b, n' 440 b = n 440 b
section SB
variable {g g' : s_g} {m m' n n' : w_M} {N b x y s k : Int}
theorem s_gn_ex {C R : Int} : s_ex g (s_gn g N C R) N := by
  intro b q1 q2
  have z : b ≠ N := by omega
  exact ⟨if_neg z, if_neg z, if_neg z, if_neg z, if_neg z, if_neg z⟩
theorem s_new {C R : Int} (h : s_st g m n) (hC : m 359 6 = C) (hN : n 428 15 = N) (hc : s_cf m m') (hm : s_mf n n') (h6 : m' 359 6 = C + 1) (h15 : n' 428 15 = N + 1) (hb : s_bd m' n')
    (hk : m' 364 C = -1) (hl : (n' 432 N = 6 ∨ n' 432 N = 7) → n' 436 N = -1 ∧ n' 435 N = 0) (hnd : s_nd (s_gn g N C R) m' n' N) : s_st (s_gn g N C R) m' n' := by
  subst hC hN
  obtain ⟨a0, b1, b2, b3, b4⟩ := h
  have a0' := a0
  unfold s_bd at a0'
  have fN : (s_gn g (n 428 15) (m 359 6) R).1 (n 428 15) = m 359 6 := if_pos rfl
  have fo : ∀ b, b < n 428 15 → (s_gn g (n 428 15) (m 359 6) R).1 b = g.1 b := fun b z => if_neg (by omega)
  refine ⟨hb, ?_, ?_, ?_, ?_⟩
  · intro b q1 q2
    by_cases z : b = n 428 15
    · rw [z]; exact hnd
    · exact (b1 b q1 (by omega)).fr ⟨q1, by omega⟩ hc hm s_gn_ex
  · intro b c q1 q2 q3 q4 q5
    by_cases z : b = n 428 15
    · by_cases z2 : c = n 428 15
      · rw [z, z2]
      · rw [z, fN, fo c (by omega)] at q5
        have := (b1 c q3 (by omega)).2.1
        omega
    · by_cases z2 : c = n 428 15
      · rw [z2, fN, fo b (by omega)] at q5
        have := (b1 b q1 (by omega)).2.1
        omega
      · rw [fo b (by omega), fo c (by omega)] at q5
        exact b2 b c q1 (by omega) q3 (by omega) q5
  · intro b c q1 q2 q3 q4
    by_cases z : b = n 428 15
    · rw [z, fN, hk]
      by_cases z2 : c = n 428 15
      · rw [z2, fN]; omega
      · rw [fo c (by omega)]
        have := (b1 c q3 (by omega)).1
        omega
    · have hb := b1 b q1 (by omega)
      have hky := hb.2.2.2.2.2.2.2.2.2.2
      rw [fo b (by omega), hc.2.2.1 364 _ (by decide) (by decide) (by have := hb.1; omega) hb.2.1]
      by_cases z2 : c = n 428 15
      · rw [z2, fN]
        rcases hky with w | w
        · omega
        · omega
      · rw [fo c (by omega)]
        exact b3 b c q1 (by omega) q3 (by omega)
  · intro b q1 q2 q3
    by_cases z : b = n 428 15
    · subst z
      obtain ⟨l1, l2⟩ := hl q3
      have ec : (s_gn g (n 428 15) (m 359 6) R).2.1 (n 428 15) = [] := if_pos rfl
      have ei : (s_gn g (n 428 15) (m 359 6) R).2.2.2.1 (n 428 15) = n 428 15 := if_pos rfl
      unfold s_ls
      rw [ec, ei]
      exact ⟨⟨l1, l2, (fun y hy => by cases hy), fun _ => ⟨(fun y hy => by cases hy), List.Pairwise.nil⟩⟩, q1, by omega⟩
    · rw [hm.2.2.1 432 b (by decide) (by decide) q1 (by omega)] at q3
      obtain ⟨c1, c2, c3⟩ := b4 b q1 (by omega) q3
      have e4 := (s_gn_ex (g := g) (N := n 428 15) (C := m 359 6) (R := R) b q1 (by omega)).2.2.2.1
      rw [e4]
      exact ⟨c1.fr ⟨q1, by omega⟩ b1 hc hm s_gn_ex, c2, by omega⟩
theorem s_tx.sm (h : s_tx m n x y s) (hs : s_sm m m' n n') : s_tx m' n' x y s := by
  obtain ⟨e1, e2, e3, e4, e5, e6⟩ := hs
  unfold s_tx at h ⊢
  simp only [e2, e4, e5, e6]
  exact h
theorem s_ky.sm (h : s_ky m n k y s) (hs : s_sm m m' n n') (hk : ∀ a, 360 ≤ a → a ≤ 362 → m' a k = m a k) : s_ky m' n' k y s := by
  rcases h with h | ⟨a1, a2, a3, a4, a5⟩
  · exact Or.inl h
  · refine Or.inr ⟨a1, by rw [hs.1]; exact a2, ?_, ?_, ?_⟩
    · rw [hk 360 (by decide) (by decide)]; exact a3
    · rw [hk 362 (by decide) (by decide)]; exact a4
    · rw [hk 361 (by decide) (by decide)]; exact a5.sm hs
/-- a row that ends with z: what stands behind z, and behind the others -/
theorem s_ch.last {l0 : List Int} {z : Int} : ∀ {x : Int}, s_ch n N x (l0 ++ [z]) → n 437 z = -1 ∧ ∀ w ∈ l0, n 437 w ≠ -1 := by
  induction l0 with
  | nil => intro x h; exact ⟨h.2.2.2, fun w hw => by cases hw⟩
  | cons u l0 ih =>
    intro x h
    obtain ⟨a1, a2, a3, a4⟩ := h
    have a4 : s_ch n N (n 437 u) (l0 ++ [z]) := a4
    obtain ⟨c1, c2⟩ := ih a4
    refine ⟨c1, fun w hw => ?_⟩
    rcases List.mem_cons.mp hw with e | hw
    · subst e
      cases l0 with
      | nil => obtain ⟨d1, d2, d3⟩ := a4; omega
      | cons v l1 => obtain ⟨d1, d2, d3⟩ := a4; omega
    · exact c2 w hw
theorem s_ch.app {l0 : List Int} {z : Int} (hy : 0 ≤ y ∧ y < N) (hz : n' 437 z = y) (hy2 : n' 437 y = -1) : ∀ {x : Int}, s_ch n N x (l0 ++ [z]) → (∀ w ∈ l0, n' 437 w = n 437 w) → s_ch n' N x (l0 ++ [z] ++ [y]) := by
  induction l0 with
  | nil =>
    intro x h _
    obtain ⟨a1, a2, a3, a4⟩ := h
    exact ⟨a1, a2, a3, hz, hy.1, hy.2, hy2⟩
  | cons u l0 ih =>
    intro x h hw
    obtain ⟨a1, a2, a3, a4⟩ := h
    exact ⟨a1, a2, a3, by rw [hw u (List.mem_cons_self ..)]; exact ih a4 (fun w hw' => hw w (List.mem_cons_of_mem _ hw'))⟩
/-- y comes behind the last part of a: z is that one, if there is one -/
theorem s_app {a z : Int} {l : List Int} (h : s_st g m n) (ha : 0 ≤ a ∧ a < n 428 15) (hka : n 432 a = 6 ∨ n 432 a = 7) (hl : g.2.1 a = l) (hy : 0 ≤ y ∧ y < n 428 15) (ho : g.2.2.1 y = -1) (hy2 : n 437 y = -1) (hr : g.2.2.2.2.1 y < g.2.2.2.2.1 a ∧ 0 ≤ g.2.2.2.2.1 y)
    (hu : ∀ b, 0 ≤ b → b < n 428 15 → (n 432 b = 6 ∨ n 432 b = 7) → b ≠ a → g.2.2.2.1 b ≠ g.2.2.2.1 a) (hd : n 432 a = 7 → 0 ≤ m 364 (g.1 y) ∧ ∀ w ∈ l, ¬ s_ke n w y)
    (hs : s_sm m m' n n')
    (hz : (l = [] ∧ z = -1) ∨ (z ∈ l ∧ n 437 z = -1 ∧ m' 363 (g.1 z) = g.1 y ∧ n' 437 z = y))
    (hm : ∀ i j : Int, 360 ≤ i → i ≤ 364 → ¬ (i = 363 ∧ z ∈ l ∧ j = g.1 z) → ¬ ((i = 361 ∨ i = 362) ∧ j = g.1 a) → m' i j = m i j)
    (hn : ∀ i j : Int, 432 ≤ i → i ≤ 439 → ¬ (i = 437 ∧ z ∈ l ∧ j = z) → ¬ ((i = 435 ∨ i = 436) ∧ j = a) → n' i j = n i j)
    (hm1 : m' 361 (g.1 a) = if l = [] then g.1 y else m 361 (g.1 a)) (hm2 : m' 362 (g.1 a) = l.length + 1) (hn1 : n' 436 a = if l = [] then y else n 436 a) (hn2 : n' 435 a = l.length + 1) : s_st (s_ga g a y) m' n' := by
  obtain ⟨a0, b1, b2, b3, b4⟩ := h
  have hs' := hs
  obtain ⟨e1, e2, e3, e4, e5, e6⟩ := hs
  obtain ⟨L1, L2, L3⟩ := b4 a ha.1 ha.2 hka
  obtain ⟨M1, M2, M3, M4⟩ := L1
  rw [hl] at M1 M2 M3 M4
  have mem := M1.mem
  have zl : z ∈ l → 0 ≤ z ∧ z < n 428 15 ∧ z ≠ a := fun q => ⟨(mem z q).1, (mem z q).2, fun e => by have := (M3 z q).2; rw [e] at this; omega⟩
  -- cells of the class that have not changed
  have key : ∀ b, 0 ≤ b → b < n 428 15 → ∀ i, 360 ≤ i → i ≤ 362 → m' i (m 364 (g.1 b)) = m i (m 364 (g.1 b)) := by
    intro b q1 q2 i i1 i2
    refine hm i _ i1 (by omega) (fun q => by omega) (fun q => ?_)
    exact b3 b a q1 q2 ha.1 ha.2 q.2
  refine ⟨by unfold s_bd at a0 ⊢; omega, ?_, ?_, ?_, ?_⟩
  · intro b q1 q2
    rw [e3] at q2
    obtain ⟨c1, c2, c3, c4, c5, c6, c7, c8, c9, c10, c11⟩ := b1 b q1 q2
    have g360 : m' 360 (g.1 b) = m 360 (g.1 b) := hm _ _ (by decide) (by decide) (by omega) (by omega)
    have g364 : m' 364 (g.1 b) = m 364 (g.1 b) := hm _ _ (by decide) (by decide) (by omega) (by omega)
    have n432 : n' 432 b = n 432 b := hn _ _ (by decide) (by decide) (by omega) (by omega)
    have n433 : n' 433 b = n 433 b := hn _ _ (by decide) (by decide) (by omega) (by omega)
    have n434 : n' 434 b = n 434 b := hn _ _ (by decide) (by decide) (by omega) (by omega)
    have n438 : n' 438 b = n 438 b := hn _ _ (by decide) (by decide) (by omega) (by omega)
    have n439 : n' 439 b = n 439 b := hn _ _ (by decide) (by decide) (by omega) (by omega)
    -- links
    have lk : s_l2 g.1 (n 428 15) (m' 363 (g.1 b)) (n' 437 b) := by
      by_cases q : z ∈ l ∧ b = z
      · rcases hz with w | ⟨w1, w2, w3, w4⟩
        · rw [w.1] at q; cases q.1
        · rw [q.2, w3, w4]
          exact Or.inr ⟨hy.1, hy.2, rfl⟩
      · rw [hm 363 _ (by decide) (by decide) (fun w => q ⟨w.2.1, b2 b z q1 q2 (zl w.2.1).1 (zl w.2.1).2.1 w.2.2⟩) (by omega), hn 437 b (by decide) (by decide) (fun w => q ⟨w.2.1, w.2.2⟩) (by omega)]
        exact c10
    have ky := c11.sm hs' (key b q1 q2)
    unfold s_nd
    rw [show (s_ga g a y).1 = g.1 from rfl, g360, g364, n432, n433, n434, n438, n439, e1, e3]
    by_cases q : b = a
    · subst q
      refine ⟨c1, c2, c3, c4, c5, fun q => by omega, fun q => by omega, fun q => by omega, fun q => ⟨by rw [hm2, hn2], ?_⟩, lk, ky⟩
      rw [hm1, hn1]
      by_cases w : l = []
      · rw [if_pos w, if_pos w]
        exact Or.inr ⟨hy.1, hy.2, rfl⟩
      · rw [if_neg w, if_neg w]
        exact (c9 hka).2
    · have nf : g.1 b ≠ g.1 a := fun w => q (b2 b a q1 q2 ha.1 ha.2 w)
      have g361 : m' 361 (g.1 b) = m 361 (g.1 b) := hm _ _ (by decide) (by decide) (by omega) (fun w => nf w.2)
      have g362 : m' 362 (g.1 b) = m 362 (g.1 b) := hm _ _ (by decide) (by decide) (by omega) (fun w => nf w.2)
      have n435 : n' 435 b = n 435 b := hn _ _ (by decide) (by decide) (by omega) (fun w => q w.2)
      have n436 : n' 436 b = n 436 b := hn _ _ (by decide) (by decide) (by omega) (fun w => q w.2)
      rw [g361, g362, n435, n436]
      exact ⟨c1, c2, c3, c4, c5, c6, c7, fun w => ⟨(c8 w).1, (c8 w).2.sm hs'⟩, c9, lk, ky⟩
  · rw [e3]; exact b2
  · rw [e3]
    intro b c q1 q2 q3 q4
    show m' 364 (g.1 b) ≠ g.1 c
    rw [hm _ _ (by decide) (by decide) (by omega) (by omega)]
    exact b3 b c q1 q2 q3 q4
  · rw [e3]
    intro b q1 q2 q3
    have ke : ∀ u v : Int, s_ke n' u v → s_ke n u v := by
      intro u v w
      have k8 : ∀ u, n' 438 u = n 438 u := fun u => hn _ _ (by decide) (by decide) (by omega) (by omega)
      have k9 : ∀ u, n' 439 u = n 439 u := fun u => hn _ _ (by decide) (by decide) (by omega) (by omega)
      unfold s_ke at w ⊢
      simp only [k8, k9, e6] at w
      exact w
    have m364 : ∀ u, m' 364 u = m 364 u := fun u => hm _ _ (by decide) (by decide) (by omega) (by omega)
    rw [hn 432 b (by decide) (by decide) (by omega) (by omega)] at q3
    obtain ⟨c1, c2, c3⟩ := b4 b q1 q2 q3
    refine ⟨?_, c2, c3⟩
    unfold s_ls
    rw [e3, hn 432 b (by decide) (by decide) (by omega) (by omega)]
    by_cases q : b = a
    · subst q
      have ec : (s_ga g b y).2.1 b = l ++ [y] := by show (if b = b then _ else _) = _; rw [if_pos rfl, hl]
      rw [ec]
      have oy : (s_ga g b y).2.2.1 y = g.2.2.2.1 b := if_pos rfl
      refine ⟨?_, by rw [hn2, List.length_append]; rfl, fun w hw => ?_, fun q7 => ⟨fun w hw => ?_, ?_⟩⟩
      · rcases hz with ⟨w1, w2⟩ | ⟨w1, w2, w3, w4⟩
        · rw [w1, hn1, if_pos w1]
          refine ⟨rfl, hy.1, hy.2, ?_⟩
          show n' 437 y = -1
          rw [hn 437 y (by decide) (by decide) (fun w => by rw [w1] at w; cases w.2.1) (by omega)]
          exact hy2
        · have ne : l ≠ [] := fun w => by rw [w] at w1; cases w1
          rw [hn1, if_neg ne]
          obtain ⟨l0, u, hlu⟩ : ∃ l0 u, l = l0 ++ [u] := ⟨l.dropLast, l.getLast ne, (List.dropLast_concat_getLast ne).symm⟩
          rw [hlu] at M1 w1 ⊢
          obtain ⟨d1, d2⟩ := M1.last
          have hzu : z = u := by
            rcases List.mem_append.mp w1 with w | w
            · exact absurd w2 (d2 z w)
            · exact List.mem_singleton.mp w
          have yz : y ≠ z := by
            intro w
            have := (M3 z (by rw [hlu]; exact w1)).1
            rw [← w, ho] at this
            omega
          refine s_ch.app hy (by rw [← hzu]; exact w4) ?_ M1 (fun w hw => ?_)
          · rw [hn 437 y (by decide) (by decide) (fun w => yz w.2.2) (by omega)]
            exact hy2
          · exact hn 437 w (by decide) (by decide) (fun v => d2 w hw (by rw [v.2.2]; exact w2)) (by omega)
      · rcases List.mem_append.mp hw with hw | hw
        · have := M3 w hw
          have wy : w ≠ y := by
            intro v
            rw [v, ho] at this
            omega
          exact ⟨by show (if w = y then _ else _) = _; rw [if_neg wy]; exact this.1, this.2⟩
        · rw [List.mem_singleton.mp hw]
          exact ⟨oy, hr⟩
      · show 0 ≤ m' 364 (g.1 w)
        rw [m364]
        rcases List.mem_append.mp hw with hw | hw
        · exact (M4 q7).1 w hw
        · rw [List.mem_singleton.mp hw]
          exact (hd q7).1
      · refine List.pairwise_append.mpr ⟨(M4 q7).2.imp (fun {u v} w1 w2 => w1 (ke u v w2)), List.pairwise_singleton .., fun u hu v hv w => ?_⟩
        rw [List.mem_singleton.mp hv] at w
        exact (hd q7).2 u hu (ke u y w)
    · obtain ⟨d1, d2, d3, d4⟩ := c1
      have mem2 := d1.mem
      have cb := hu b q1 q2 q3 q
      have ec : (s_ga g a y).2.1 b = g.2.1 b := if_neg q
      rw [ec, hn 435 b (by decide) (by decide) (by omega) (fun w => q w.2), hn 436 b (by decide) (by decide) (by omega) (fun w => q w.2)]
      refine ⟨d1.fr (Int.le_refl _) (fun w hw => hn 437 w (by decide) (by decide) (fun v => ?_) (by omega)), d2, fun w hw => ?_, fun q7 => ⟨fun w hw => ?_, ?_⟩⟩
      · have y1 := (d3 w hw).1
        have y2 := (M3 z v.2.1).1
        rw [← v.2.2, y1] at y2
        exact cb y2
      · have := d3 w hw
        have wy : w ≠ y := by
          intro v
          rw [v, ho] at this
          omega
        exact ⟨by show (if w = y then _ else _) = _; rw [if_neg wy]; exact this.1, this.2⟩
      · show 0 ≤ m' 364 (g.1 w)
        rw [m364]
        exact (d4 q7).1 w hw
      · exact (d4 q7).2.imp (fun {u v} w1 w2 => w1 (ke u v w2))
/-- y, nobody's part, is named -/
theorem s_nam {K kf ks : Int} (h : s_st g m n) (hy : 0 ≤ y ∧ y < n 428 15) (ho : g.2.2.1 y = -1) (hs : s_sm m m' n n')
    (hm : ∀ i j : Int, 360 ≤ i → i ≤ 364 → ¬ (i = 364 ∧ j = g.1 y) → m' i j = m i j) (hn : ∀ i j : Int, 432 ≤ i → i ≤ 439 → ¬ ((i = 438 ∨ i = 439) ∧ j = y) → n' i j = n i j)
    (h1 : m' 364 (g.1 y) = K) (h2 : n' 438 y = kf) (h3 : n' 439 y = ks) (hk : s_ky m n K kf ks) (hK : ∀ c, 0 ≤ c → c < n 428 15 → K ≠ g.1 c) : s_st g m' n' := by
  obtain ⟨a0, b1, b2, b3, b4⟩ := h
  have hs' := hs
  obtain ⟨e1, e2, e3, e4, e5, e6⟩ := hs
  have key : ∀ k i, 360 ≤ i → i ≤ 362 → m' i k = m i k := fun k i i1 i2 => hm i k i1 (by omega) (by omega)
  have m364 : ∀ b, 0 ≤ b → b < n 428 15 → b ≠ y → m' 364 (g.1 b) = m 364 (g.1 b) := fun b q1 q2 q => hm _ _ (by decide) (by decide) (fun w => q (b2 b y q1 q2 hy.1 hy.2 w.2))
  refine ⟨by unfold s_bd at a0 ⊢; omega, ?_, by rw [e3]; exact b2, ?_, ?_⟩
  · intro b q1 q2
    rw [e3] at q2
    obtain ⟨c1, c2, c3, c4, c5, c6, c7, c8, c9, c10, c11⟩ := b1 b q1 q2
    have gm : ∀ i, 360 ≤ i → i ≤ 363 → m' i (g.1 b) = m i (g.1 b) := fun i i1 i2 => hm i _ i1 (by omega) (by omega)
    have gn : ∀ i, 432 ≤ i → i ≤ 437 → n' i b = n i b := fun i i1 i2 => hn i _ i1 (by omega) (by omega)
    unfold s_nd
    rw [gm 360 (by decide) (by decide), gm 361 (by decide) (by decide), gm 362 (by decide) (by decide), gm 363 (by decide) (by decide), gn 432 (by decide) (by decide), gn 433 (by decide) (by decide), gn 434 (by decide) (by decide), gn 435 (by decide) (by decide), gn 436 (by decide) (by decide), gn 437 (by decide) (by decide), e1, e3]
    refine ⟨c1, c2, c3, c4, c5, c6, c7, fun w => ⟨(c8 w).1, (c8 w).2.sm hs'⟩, c9, c10, ?_⟩
    by_cases q : b = y
    · rw [q, h1, h2, h3]
      exact hk.sm hs' (key K)
    · rw [m364 b q1 q2 q, hn 438 b (by decide) (by decide) (fun w => q w.2), hn 439 b (by decide) (by decide) (fun w => q w.2)]
      exact c11.sm hs' (key _)
  · rw [e3]
    intro b c q1 q2 q3 q4
    by_cases q : b = y
    · rw [q, h1]; exact hK c q3 q4
    · rw [m364 b q1 q2 q]; exact b3 b c q1 q2 q3 q4
  · rw [e3]
    intro b q1 q2 q3
    have gn : ∀ i j, 432 ≤ i → i ≤ 437 → n' i j = n i j := fun i j i1 i2 => hn i _ i1 (by omega) (by omega)
    rw [gn 432 b (by decide) (by decide)] at q3
    obtain ⟨⟨d1, d2, d3, d4⟩, c2, c3⟩ := b4 b q1 q2 q3
    have mem := d1.mem
    refine ⟨?_, c2, c3⟩
    have ny : ∀ w ∈ g.2.1 b, w ≠ y := by
      intro w hw v
      have := (d3 w hw).1
      rw [v, ho] at this
      omega
    unfold s_ls
    rw [e3, gn 432 b (by decide) (by decide), gn 435 b (by decide) (by decide), gn 436 b (by decide) (by decide)]
    refine ⟨d1.fr (Int.le_refl _) (fun w hw => gn 437 w (by decide) (by decide)), d2, d3, fun q7 => ⟨fun w hw => ?_, ?_⟩⟩
    · rw [m364 w (mem w hw).1 (mem w hw).2 (ny w hw)]
      exact (d4 q7).1 w hw
    · refine List.Pairwise.imp_of_mem (fun {u v} hu hv w1 w2 => w1 ?_) (d4 q7).2
      have r8 : ∀ w, w ≠ y → n' 438 w = n 438 w := fun w z => hn _ _ (by decide) (by decide) (fun v => z v.2)
      have r9 : ∀ w, w ≠ y → n' 439 w = n 439 w := fun w z => hn _ _ (by decide) (by decide) (fun v => z v.2)
      unfold s_ke at w2 ⊢
      rw [r8 u (ny u hu), r9 u (ny u hu), r8 v (ny v hv), r9 v (ny v hv)] at w2
      simp only [e6] at w2
      exact w2
end SB
