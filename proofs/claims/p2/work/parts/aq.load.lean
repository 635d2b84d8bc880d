/-! ===== load's end: both sides ===== -/
/-- named by the trailer or by a root below i -/
def l_rk (g : s_g) (n : w_M) (i j : Int) : Prop :=
  (∃ b, n 428 64 ≤ b ∧ b < g.2.2.2.2.2 (n 428 64) ∧ n 432 b = 8 ∧ n 433 b = j) ∨ ∃ k, (0 ≤ k ∧ k < i ∧ n 451 k ≠ 0) ∧ ∃ b, n 455 k ≤ b ∧ b < g.2.2.2.2.2 (n 455 k) ∧ n 432 b = 8 ∧ n 433 b = j
def l_ref (g : s_g) (n : w_M) (j : Int) : Prop := l_rk g n (n 428 60) j
/-- the trees of the numbers and of the trailer -/
def l_nt (g : s_g) (n : w_M) : Prop :=
  (o_tr g n (n 428 64) (g.2.2.2.2.2 (n 428 64)) ∧ n 428 64 < g.2.2.2.2.2 (n 428 64) ∧ g.2.2.2.2.1 (n 428 64) ≤ 21) ∧
  ∀ k, 0 ≤ k → k < n 428 60 → n 451 k ≠ 0 → o_tr g n (n 455 k) (g.2.2.2.2.2 (n 455 k)) ∧ n 455 k < g.2.2.2.2.2 (n 455 k) ∧ g.2.2.2.2.1 (n 455 k) ≤ 21
/-- what load may change -/
def d_xf (m m' : w_M) : Prop := ∀ i j : Int, ¬ (i = 357 ∧ (j = 1 ∨ j = 12 ∨ (14 ≤ j ∧ j ≤ 18))) → ¬ (i = 404 ∧ j = 18) → ¬ (i = 359 ∧ (j = 6 ∨ j = 7)) → ¬ (360 ≤ i ∧ i ≤ 364 ∧ 41 ≤ j) → ¬ (i = 365 ∧ 8512 ≤ j) → ¬ (366 ≤ i ∧ i ≤ 393) → ¬ (i = 394 ∧ (j = 1 ∨ j = 9)) → ¬ (395 ≤ i ∧ i ≤ 398) → ¬ (i = 399 ∧ (j = 7 ∨ j = 8)) → ¬ (400 ≤ i ∧ i ≤ 402) → m' i j = m i j
def d_nf (n n' : w_M) : Prop := ∀ i j : Int, ¬ (i = 428 ∧ ¬ (j = 5 ∨ (85 ≤ j ∧ j ≤ 87) ∨ (89 ≤ j ∧ j ≠ 104))) → i ≠ 430 → ¬ (432 ≤ i ∧ i ≤ 470) → n' i j = n i j
def d_rv (n : w_M) : Prop := n 428 1 = 0 ∧ n 428 88 = -1 ∧ n 428 104 = 0 ∧ n 428 70 = 0 ∧ n 428 71 = -1
/-- a document just loaded -/
def d_ld (g : s_g) (m n : w_M) (W : Int → Int) (L : Int) : Prop :=
  t_RT g m n ∧ e_tl g m n ∧ l_fb m W L ∧ e_F n W L ∧ (m 391 6 = n 428 61 ∧ (1 ≤ n 428 61 ∧ n 428 61 ≤ 10) ∧ ∀ i, 0 ≤ i → i < n 428 61 → m 392 i = n 463 i) ∧
  (∀ j, 0 ≤ j → j < 200 → (m 374 j = n 461 j ∧ n 462 j = 0 ∧ m 373 j = 0 ∧ n 460 j = 0) ∧ (l_ref g n j → n 461 j = 1) ∧ (¬ l_ref g n j → n 461 j = 0)) ∧ m 366 12 = n 428 60 ∧ l_nt g n ∧ s_ct m n 376 ∧ l_mx m n
section LE
variable {d c e : Nat} {g g' : s_g} {m m' m0 m1 m2 n n' n0 n1 n2 : w_M} {Q R : Int → w_M → Prop} {W : Int → Int} {L C k x y z i j a b f p v : Int}
theorem o_tr.fr {A E : Int} (h : o_tr g n A E) (h15 : n' 428 15 = n 428 15) (h32 : ∀ b, n' 432 b = n 432 b) : o_tr g n' A E := by
  obtain ⟨t0, t1, t2⟩ := h
  refine ⟨t0, by omega, fun b b1 b2 => ?_⟩
  rw [h32 b]
  exact t2 b b1 b2
theorem l_nt.fr (h : l_nt g n) (h15 : n' 428 15 = n 428 15) (h60 : n' 428 60 = n 428 60) (h64 : n' 428 64 = n 428 64) (h32 : ∀ b, n' 432 b = n 432 b) (h51 : ∀ k, n' 451 k = n 451 k) (h55 : ∀ k, n' 455 k = n 455 k) : l_nt g n' := by
  obtain ⟨⟨a1, a2, a3⟩, a4⟩ := h
  refine ⟨?_, fun k k0 k1 k2 => ?_⟩
  · rw [h64]; exact ⟨a1.fr h15 h32, a2, a3⟩
  · rw [h51] at k2
    rw [h55]
    obtain ⟨b1, b2, b3⟩ := a4 k k0 (by omega) k2
    exact ⟨b1.fr h15 h32, b2, b3⟩
theorem l_ref_fr (h60 : n' 428 60 = n 428 60) (h64 : n' 428 64 = n 428 64) (h32 : ∀ b, n' 432 b = n 432 b) (h33 : ∀ b, n' 433 b = n 433 b) (h51 : ∀ k, n' 451 k = n 451 k) (h55 : ∀ k, n' 455 k = n 455 k) : l_ref g n' j ↔ l_ref g n j := by
  unfold l_ref l_rk
  simp only [h60, h64, h32, h33, h51, h55]
theorem l_nt.of (h : l_I g m n W L C) (hall : ∀ x, 1 ≤ x → x < n 428 60 → n 451 x ≠ 0 → n 456 x = 2) : l_nt g n := by
  obtain ⟨i1, i2, i3, i4, i5, i6, i7, i8, i9, i10, i11, i12, i13, i14, i15⟩ := h
  refine ⟨?_, fun k q1 q2 q3 => ?_⟩
  · obtain ⟨t1, t2, t3, t4, t5, t6, t7, t8, t9, t10, t11, ⟨r1, _⟩, r3, r4⟩ := i11
    refine ⟨⟨t1, t9, fun b b1 b2 => ?_⟩, r3, by omega⟩
    obtain ⟨c1, c2, c3, c4, c5, c6⟩ := r1 b b1 b2
    exact ⟨c3, c4, c5, c6, (r4 b b1 b2).2⟩
  · rcases i12 k q1 (by omega) with w | w
    · exact absurd w.1 q3
    · have s2 := hall k w.1.1 q2 q3
      obtain ⟨a0, a1, a2, a3, a4, a5, a6⟩ := (i12 k q1 (by omega)).root (by omega)
      refine ⟨⟨a0, a2, fun b b1 b2 => ?_⟩, a1, by omega⟩
      obtain ⟨c1, c2, c3, c4, c5, c6, c7⟩ := a6 b b1 b2
      exact ⟨c3, c4, c5, c6, c7⟩
theorem o_I.of (h : l_I g m n W L C) (hall : ∀ x, 1 ≤ x → x < n 428 60 → n 451 x ≠ 0 → n 456 x = 2) : o_I g m n := by
  obtain ⟨i1, i2, i3, i4, i5, i6, i7, i8, i9, i10, i11, i12, i13, i14, i15⟩ := h
  refine ⟨i1, i2, ⟨i9.1, i9.2.1⟩, i10, fun k q1 q2 => ?_⟩
  rcases i12 k q1 q2 with w | ⟨a1, a2, a3, a4, a5, a6, a7, a8, a9, b1, b2, b3⟩
  · exact Or.inl ⟨w.1, w.2.1, w.2.2.2.1, w.2.2.2.2.2⟩
  · have s2 := hall k a1.1 a1.2 (by omega)
    obtain ⟨r0, r1, r2, r3, _⟩ := b1 (by omega)
    obtain ⟨c1, c2⟩ := b3 s2
    refine Or.inr ⟨a1, a2, by omega, ?_, ?_, ⟨r0, by omega, r3⟩, c1, c2⟩
    · unfold o_gn
      rw [a9]
      by_cases q : n 451 k = 2
      · rw [if_pos ⟨q, s2⟩, if_pos q]
      · rw [if_neg (fun z => q z.1), if_neg q, if_neg (by have := a6.2 (by omega) (by omega); omega)]
    · unfold o_gn
      by_cases q : n 451 k = 2
      · rw [if_pos q]; decide
      · rw [if_neg q]; exact ⟨a6.1, a6.2 (by omega) (by omega)⟩
theorem l_names (h : l_I g m n W L C) (hall : ∀ x, 1 ≤ x → x < n 428 60 → n 451 x ≠ 0 → n 456 x = 2) : l_ref g n j ↔ ((∃ c, m 391 8 ≤ c ∧ c < m 391 9 ∧ m 360 c = 8 ∧ m 361 c = j) ∨ ∃ c, C ≤ c ∧ c < m 359 6 ∧ m 360 c = 8 ∧ m 361 c = j) := by
  obtain ⟨i1, i2, i3, i4, i5, i6, i7, i8, i9, i10, i11, i12, i13, i14, i15⟩ := h
  obtain ⟨t1, t2, t3, t4, t5, t6, t7, t8, t9, t10, t11, ⟨r1, r2⟩, r3, r4⟩ := i11
  have nd : ∀ b, 0 ≤ b → b < n 428 15 → g.1 b < m 359 6 ∧ m 360 (g.1 b) = n 432 b ∧ (n 432 b = 8 → m 361 (g.1 b) = n 433 b) := fun b b0 b1 => by
    have := i1.2.1 b b0 b1
    exact ⟨this.2.1, this.2.2.1, fun w => this.2.2.2.2.2.1 (Or.inr w)⟩
  have tr : ∀ k, 0 ≤ k → k < 200 → n 456 k ≠ 0 → l_tr g n C (n 455 k) := fun k k0 k1 w => (i12 k k0 k1).root w
  constructor
  · intro h
    rcases h with ⟨b, b1, b2, b3, b4⟩ | ⟨k, ⟨k1, k2, k3⟩, b, b1, b2, b3, b4⟩
    · obtain ⟨n1, n2, n3⟩ := nd b (by omega) (by omega)
      exact Or.inl ⟨g.1 b, (r1 b b1 b2).1, (r4 b b1 b2).1, by omega, by rw [n3 b3]; exact b4⟩
    · have kk : 1 ≤ k := by
        rcases i12 k k1 (by omega) with w | w
        · exact absurd w.1 k3
        · exact w.1.1
      have s2 := hall k kk k2 k3
      obtain ⟨a0, a1, a2, a3, a4, a5, a6⟩ := tr k k1 (by omega) (by omega)
      obtain ⟨n1, n2, n3⟩ := nd b (by omega) (by omega)
      exact Or.inr ⟨g.1 b, (a6 b b1 b2).1, n1, by omega, by rw [n3 b3]; exact b4⟩
  · intro h
    rcases h with ⟨c, c1, c2, c3, c4⟩ | ⟨c, c1, c2, c3, c4⟩
    · rcases r2 c c1 c2 with ⟨b, b1, b2, b3⟩ | w
      · obtain ⟨n1, n2, n3⟩ := nd b (by omega) (by omega)
        rw [b3] at n2 n3
        have k8 : n 432 b = 8 := by omega
        exact Or.inl ⟨b, b1, b2, k8, by rw [← n3 k8]; exact c4⟩
      · omega
    · rcases i14.2.2 c c1 c2 with w | ⟨k, b, k0, k1, k2, b1, b2, b3⟩
      · omega
      · obtain ⟨a0, a1, a2, a3, a4, a5, a6⟩ := tr k k0 k1 k2
        obtain ⟨n1, n2, n3⟩ := nd b (by omega) (by omega)
        rw [b3] at n2 n3
        have k8 : n 432 b = 8 := by omega
        rcases i12 k k0 k1 with w | w
        · exact absurd w.2.2.1 k2
        · exact Or.inr ⟨k, ⟨k0, w.1.2, by omega⟩, b, b1, b2, k8, by rw [← n3 k8]; exact c4⟩
theorem l_nam2 {s t : Int} (hj : 0 ≤ j ∧ j < 200) (h : (∃ c, a ≤ c ∧ c < b ∧ m 360 c = 8 ∧ m 361 c = j) ∨ ∃ c, s ≤ c ∧ c < t ∧ m 360 c = 8 ∧ m 361 c = j) : l_nam (l_nam m a b) s t 374 j = 1 := by
  by_cases q : ∃ c, s ≤ c ∧ c < t ∧ l_nam m a b 360 c = 8 ∧ l_nam m a b 361 c = j
  · exact l_nam_y hj q
  · rw [l_nam_n q]
    refine l_nam_y hj (h.resolve_right (fun ⟨c, c1, c2, c3, c4⟩ => q ⟨c, c1, c2, ?_, ?_⟩))
    · rw [l_nam_o (by decide)]; exact c3
    · rw [l_nam_o (by decide)]; exact c4
theorem l_nam2n {s t : Int} (h : ¬ ((∃ c, a ≤ c ∧ c < b ∧ m 360 c = 8 ∧ m 361 c = j) ∨ ∃ c, s ≤ c ∧ c < t ∧ m 360 c = 8 ∧ m 361 c = j)) : l_nam (l_nam m a b) s t 374 j = m 374 j := by
  have h1 : ¬ ∃ c, s ≤ c ∧ c < t ∧ l_nam m a b 360 c = 8 ∧ l_nam m a b 361 c = j := fun ⟨c, c1, c2, c3, c4⟩ => h (Or.inr ⟨c, c1, c2, by rw [l_nam_o (by decide)] at c3; exact c3, by rw [l_nam_o (by decide)] at c4; exact c4⟩)
  rw [l_nam_n h1, l_nam_n (fun w => h (Or.inl w))]
/- the reference's loops -/
theorem l_rk_n (q : n 451 i = 0) : l_rk g n (i + 1) j ↔ l_rk g n i j :=
  ⟨fun h => h.imp id (fun ⟨k, ⟨k0, k1, k2⟩, r⟩ => ⟨k, ⟨k0, by have : k ≠ i := fun e => k2 (by rw [e]; exact q); omega, k2⟩, r⟩), fun h => h.imp id (fun ⟨k, ⟨k0, k1, k2⟩, r⟩ => ⟨k, ⟨k0, by omega, k2⟩, r⟩)⟩
theorem l_rk_y (i0 : 0 ≤ i) (q : n 451 i ≠ 0) : l_rk g n (i + 1) j ↔ (l_rk g n i j ∨ ∃ b, n 455 i ≤ b ∧ b < g.2.2.2.2.2 (n 455 i) ∧ n 432 b = 8 ∧ n 433 b = j) := by
  constructor
  · intro h
    rcases h with h | ⟨k, ⟨k0, k1, k2⟩, r⟩
    · exact Or.inl (Or.inl h)
    · by_cases e : k = i
      · rw [e] at r; exact Or.inr r
      · exact Or.inl (Or.inr ⟨k, ⟨k0, by omega, k2⟩, r⟩)
  · intro h
    rcases h with (h | ⟨k, ⟨k0, k1, k2⟩, r⟩) | h
    · exact Or.inl h
    · exact Or.inr ⟨k, ⟨k0, by omega, k2⟩, r⟩
    · exact Or.inr ⟨i, ⟨i0, by omega, q⟩, h⟩
theorem r_nm (hst : s_st g m n) (hn : l_nt g n) (hl : n 428 60 ≤ 200) : ∀ (K : Nat) (i : Int) (n1 : w_M), i + K = n 428 60 → 0 ≤ i → (∀ a b : Int, a ≠ 461 → n1 a b = n a b) → (∀ j, (l_rk g n i j → n1 461 j = 1) ∧ (¬ l_rk g n i j → n1 461 j = n 461 j)) →
    (∀ n', (∀ a b : Int, a ≠ 461 → ¬ (a = 428 ∧ b = 6) → n' a b = n a b) → n' 428 6 = 1 → (∀ j, (l_ref g n j → n' 461 j = 1) ∧ (¬ l_ref g n j → n' 461 j = n 461 j)) → Q (n 428 84) n') → xp_m_load_269 (d + 22) i n1 Q := by
  intro K
  induction K with
  | zero =>
    intro i n1 hi i0 hf hx hQ
    apply xr_m_load_269
    rw [hf 428 60 (by decide), if_neg (by omega), hf 428 84 (by decide)]
    refine hQ _ (fun a b q1 q2 => ?_) w_up_eq (fun j => ?_)
    · unfold w_up
      rw [if_neg q2]; exact hf a b q1
    · rw [w_up_ne (by decide)]
      have e : i = n 428 60 := by omega
      have := hx j
      rw [e] at this
      exact this
  | succ K ih =>
    intro i n1 hi i0 hf hx hQ
    apply xr_m_load_269
    rw [hf 428 60 (by decide), if_pos (by omega), hf 451 i (by decide), hf 455 i (by decide), w_32_id (x := i + 1) (by omega) (by omega)]
    refine ⟨by omega, ?_⟩
    refine z_ite (fun q => ?_) (fun q => ⟨by omega, ?_⟩)
    · refine ih (i + 1) n1 (by omega) (by omega) hf (fun j => ?_) hQ
      rw [l_rk_n q]
      exact hx j
    · obtain ⟨b1, b2, b3⟩ := hn.2 i i0 (by omega) q
      refine r_nameAll (d := d) hst b1 21 (n 455 i) n1 _ hf b3 (Int.le_refl _) b2 ?_
      refine ih (i + 1) _ (by omega) (by omega) (fun a b w => by rw [o_nam_o w]; exact hf a b w) (fun j => ?_) hQ
      rw [l_rk_y i0 q]
      by_cases z : ∃ b, n 455 i ≤ b ∧ b < g.2.2.2.2.2 (n 455 i) ∧ n1 432 b = 8 ∧ n1 433 b = j
      · rw [o_nam_y z]
        refine ⟨fun _ => rfl, fun w => ?_⟩
        obtain ⟨b, z1, z2, z3, z4⟩ := z
        rw [hf 432 b (by decide)] at z3
        rw [hf 433 b (by decide)] at z4
        exact absurd (Or.inr ⟨b, z1, z2, z3, z4⟩) w
      · rw [o_nam_n z]
        refine ⟨fun w => ?_, fun w => (hx j).2 (fun u => w (Or.inl u))⟩
        rcases w with w | ⟨b, z1, z2, z3, z4⟩
        · exact (hx j).1 w
        · exact absurd ⟨b, z1, z2, by rw [hf 432 b (by decide)]; exact z3, by rw [hf 433 b (by decide)]; exact z4⟩ z
theorem r_232 : ∀ (K : Nat) (i : Int) (n1 : w_M), i + K = 200 → 0 ≤ i → (∀ a b : Int, a ≠ 461 → a ≠ 462 → n1 a b = n a b) → (∀ j, 0 ≤ j → j < i → n1 461 j = 0 ∧ n1 462 j = 0) →
    (∀ n', (∀ a b : Int, a ≠ 461 → a ≠ 462 → n' a b = n a b) → (∀ j, 0 ≤ j → j < 200 → n' 461 j = 0 ∧ n' 462 j = 0) → xc_m_nameAll d (n 428 64) n' (fun _ m1 => xp_m_load_269 d 0 m1 Q)) → xp_m_load_232 d i n1 Q := by
  intro K
  induction K with
  | zero =>
    intro i n1 hi i0 hf hx hQ
    apply xr_m_load_232
    rw [if_neg (by omega), hf 428 64 (by decide) (by decide)]
    exact hQ n1 hf (fun j j0 j1 => hx j j0 (by omega))
  | succ K ih =>
    intro i n1 hi i0 hf hx hQ
    apply xr_m_load_232
    rw [if_pos (by omega), w_32_id (x := i + 1) (by omega) (by omega)]
    refine ⟨by omega, by omega, ih (i + 1) _ (by omega) (by omega) (fun a b q1 q2 => ?_) (fun j j0 j1 => ?_) hQ⟩
    · rw [w_up_ne q2, w_up_ne q1]; exact hf a b q1 q2
    · by_cases q : j = i
      · rw [q, w_up_ne (by decide), w_up_eq, w_up_eq]
        exact ⟨rfl, rfl⟩
      · rw [w_up_ne (by decide), w_up_nb q, w_up_nb q, w_up_ne (by decide)]
        exact hx j j0 (by omega)
theorem r_names (hst : s_st g m n) (hn : l_nt g n) (hl : 0 ≤ n 428 60 ∧ n 428 60 ≤ 200)
    (hQ : ∀ n', (∀ a b : Int, a ≠ 461 → a ≠ 462 → ¬ (a = 428 ∧ b = 6) → n' a b = n a b) → n' 428 6 = 1 → (∀ j, 0 ≤ j → j < 200 → n' 462 j = 0 ∧ (l_ref g n j → n' 461 j = 1) ∧ (¬ l_ref g n j → n' 461 j = 0)) → Q (n 428 84) n') : xp_m_load_232 (d + 22) 0 n Q := by
  refine r_232 200 0 n (by decide) (by decide) (fun _ _ _ _ => rfl) (fun j q1 q2 => by omega) (fun n0 f0 z0 => ?_)
  have ff : ∀ i j : Int, i ≤ 460 → n0 i j = n i j := fun i j q => f0 i j (by omega) (by omega)
  have bd := hst.1
  have hst0 : s_st g m n0 := by
    refine hst.fr ⟨Int.le_refl _, Int.le_refl _, fun _ _ _ _ _ _ => rfl, fun _ _ => rfl⟩ ⟨by rw [ff 428 15 (by decide)]; exact Int.le_refl _, by rw [ff 428 17 (by decide)]; exact Int.le_refl _, fun a b q1 q2 _ _ => ff a b (by omega), fun b _ => ff 440 b (by decide)⟩ (ff _ _ (by decide)) ?_
    unfold s_bd at bd ⊢
    rw [ff 428 15 (by decide), ff 428 17 (by decide)]
    exact bd
  have hn0 : l_nt g n0 := hn.fr (ff _ _ (by decide)) (ff _ _ (by decide)) (ff _ _ (by decide)) (fun b => ff _ _ (by decide)) (fun b => ff _ _ (by decide)) (fun b => ff _ _ (by decide))
  have lr : ∀ j, l_ref g n0 j ↔ l_ref g n j := fun j => l_ref_fr (ff _ _ (by decide)) (ff _ _ (by decide)) (fun b => ff _ _ (by decide)) (fun b => ff _ _ (by decide)) (fun b => ff _ _ (by decide)) (fun b => ff _ _ (by decide))
  have e60 := ff 428 60 (by decide)
  have e84 := ff 428 84 (by decide)
  obtain ⟨b1, b2, b3⟩ := hn0.1
  rw [← ff 428 64 (by decide)]
  refine r_nameAll (d := d) hst0 b1 21 (n0 428 64) n0 _ (fun _ _ _ => rfl) b3 (Int.le_refl _) b2 ?_
  refine r_nm hst0 hn0 (by omega) (n0 428 60).toNat 0 _ (by omega) (Int.le_refl _) (fun a b q => o_nam_o q) (fun j => ?_) (fun n' f' e6 hx => ?_)
  · by_cases z : ∃ b, n0 428 64 ≤ b ∧ b < g.2.2.2.2.2 (n0 428 64) ∧ n0 432 b = 8 ∧ n0 433 b = j
    · rw [o_nam_y z]
      exact ⟨fun _ => rfl, fun w => absurd (Or.inl z) w⟩
    · rw [o_nam_n z]
      refine ⟨fun w => ?_, fun _ => rfl⟩
      rcases w with w | ⟨k, ⟨k0, k1, _⟩, _⟩
      · exact absurd w z
      · omega
  · rw [e84]
    refine hQ n' (fun a b q1 q2 q3 => by rw [f' a b q1 q3]; exact f0 a b q1 q2) e6 (fun j j0 j1 => ⟨by rw [f' 462 j (by decide) (by omega)]; exact (z0 j j0 j1).2, fun w => (hx j).1 ((lr j).mpr w), fun w => ?_⟩)
    rw [(hx j).2 (fun u => w ((lr j).mp u))]
    exact (z0 j j0 j1).1
/- the ends -/
theorem c_313 (hQ : Q (m 399 7) (w_up (w_up m 357 14 1) 357 16 (-1))) : xp_x_load_313 d 1 m Q := by
  apply xr_x_load_313
  refine ⟨Or.inr rfl, ?_⟩
  rw [if_neg (show ¬ (1 : Int) = 0 by decide), if_neg (show ¬ (1 : Int) = 0 by decide)]
  exact hQ
theorem c_313f (hQ : Q (w_32 (-100 - m 357 15)) (w_up (w_up m 357 14 0) 357 16 (m 376 7))) : xp_x_load_313 d 0 m Q := by
  apply xr_x_load_313
  refine ⟨Or.inl rfl, ?_⟩
  rw [if_pos rfl, if_pos rfl]
  exact hQ
theorem c_229f (h : m 376 6 ≠ 0) (hQ : Q (w_32 (-100 - m 376 6)) (w_up (w_up (w_up m 357 15 (m 376 6)) 357 14 0) 357 16 (m 376 7))) : xp_x_load_229 d C m Q := by
  apply xr_x_load_229
  rw [if_neg h, if_neg h]
  refine c_313f ?_
  rw [w_up_eq, w_up_ne (by decide)]
  exact hQ
theorem c_229 (h6 : m 376 6 = 0) (h0 : 0 ≤ m 391 8) (h1 : m 391 8 ≤ m 391 9) (h2 : m 391 9 ≤ m 359 6) (h3 : m 359 6 ≤ 16564) (hC : 0 ≤ C ∧ C ≤ m 359 6)
    (H : xc_tr_read (d + 2) (m 391 7) (l_nam (l_nam m (m 391 8) (m 391 9)) C (m 359 6)) (fun _ m3 => if m3 376 6 = 0 then xp_x_load_313 (d + 2) 1 (w_up m3 357 15 (m3 376 6)) Q else xp_x_load_313 (d + 2) 0 (w_up m3 357 15 (m3 376 6)) Q)) : xp_x_load_229 (d + 2) C m Q := by
  apply xr_x_load_229
  rw [if_pos h6]
  refine c_nameAll (d := d) h0 h1 h2 h3 ?_
  rw [l_nam_o (m := m) (i := 359) (by decide)]
  refine c_nameAll (d := d) hC.1 hC.2 (by rw [l_nam_o (by decide)]; exact Int.le_refl _) (by rw [l_nam_o (by decide)]; exact h3) ?_
  rw [l_nam_o (i := 391) (by decide), l_nam_o (i := 391) (by decide)]
  exact H
theorem r_173f (h : n 428 27 ≠ 0) (hQ : ∀ n', (∀ i j : Int, ¬ (i = 428 ∧ ((68 ≤ j ∧ j ≤ 71) ∨ j = 84)) → n' i j = n i j) → n' 428 68 = n 428 27 → n' 428 69 = n 428 28 → n' 428 70 = 0 → n' 428 71 = -1 → n' 428 84 = 0 → Q (w_32 (-100 - n 428 27)) n') : xp_m_load_173 (d + 1) n Q := by
  have g0 : ∀ n' : w_M, n' 428 27 = n 428 27 → f_m_good n' = 0 := fun n' e => if_neg (by rw [e]; exact h)
  apply xr_m_load_173
  refine sp_m_good (d := d) ?_
  rw [g0 _ (by rw [w_up_nb (by decide)]), if_pos rfl]
  refine sp_m_good (d := d) ?_
  rw [g0 _ (by rw [w_up_nb (by decide), w_up_nb (by decide), w_up_nb (by decide), w_up_nb (by decide)]), if_pos rfl, show (w_up (w_up (w_up (w_up n 428 68 (n 428 27)) 428 69 ((w_up n 428 68 (n 428 27)) 428 28)) 428 70 0) 428 71 (-1)) 428 27 = n 428 27 by rw [w_up_nb (by decide), w_up_nb (by decide), w_up_nb (by decide), w_up_nb (by decide)]]
  refine hQ _ (fun i j q => ?_) ?_ ?_ ?_ ?_ ?_
  · unfold w_up
    rw [if_neg (by omega), if_neg (by omega), if_neg (by omega), if_neg (by omega), if_neg (by omega)]
  · rw [w_up_nb (by decide), w_up_nb (by decide), w_up_nb (by decide), w_up_nb (by decide), w_up_eq]
  · rw [w_up_nb (by decide), w_up_nb (by decide), w_up_nb (by decide), w_up_eq, w_up_nb (by decide)]
  · rw [w_up_nb (by decide), w_up_nb (by decide), w_up_eq]
  · rw [w_up_nb (by decide), w_up_eq]
  · rw [w_up_eq]
theorem r_173 (h : n 428 27 = 0) (hQ : ∀ n', (∀ i j : Int, ¬ (i = 428 ∧ (68 ≤ j ∧ j ≤ 71)) → n' i j = n i j) → n' 428 68 = 0 → n' 428 69 = -1 → n' 428 70 = 0 → n' 428 71 = -1 → xp_m_load_232 (d + 1) 0 n' Q) : xp_m_load_173 (d + 1) n Q := by
  have g0 : ∀ n' : w_M, n' 428 27 = n 428 27 → f_m_good n' = 1 := fun n' e => if_pos (by rw [e]; exact h)
  apply xr_m_load_173
  refine sp_m_good (d := d) ?_
  rw [g0 _ (by rw [w_up_nb (by decide)]), if_neg (show ¬ (1 : Int) = 0 by decide)]
  refine sp_m_good (d := d) ?_
  rw [g0 _ (by rw [w_up_nb (by decide), w_up_nb (by decide), w_up_nb (by decide), w_up_nb (by decide)]), if_neg (show ¬ (1 : Int) = 0 by decide)]
  refine hQ _ (fun i j q => ?_) ?_ ?_ ?_ ?_
  · unfold w_up
    rw [if_neg (by omega), if_neg (by omega), if_neg (by omega), if_neg (by omega)]
  · rw [w_up_nb (by decide), w_up_nb (by decide), w_up_nb (by decide), w_up_eq, h]
  · rw [w_up_nb (by decide), w_up_nb (by decide), w_up_eq]
  · rw [w_up_nb (by decide), w_up_eq]
  · rw [w_up_eq]
end LE
