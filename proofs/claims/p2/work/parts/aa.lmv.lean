/-! ===== the loader: what both know stays; an object comes ===== -/
section SE2
variable {d c : Nat} {g g' : s_g} {m m' m1 m2 n n' n1 n2 : w_M} {Q : Int → w_M → Prop} {W : Int → Int} {L p k v x y P r b len w C : Int}
theorem l_o.root (h : l_o g m n C k) (h0 : n 456 k ≠ 0) : l_tr g n C (n 455 k) := by
  rcases h with h | h
  · exact absurd h.2.2.1 h0
  · exact h.2.2.2.2.2.2.2.2.2.1 h0
theorem l_wt.fr (h : l_wt g m n) (ho : ∀ k, 0 ≤ k → k < 200 → l_o g m n C k) (hl : n 428 60 ≤ 200) (h9 : m' 394 9 = m 394 9) (hm : ∀ i j, 396 ≤ i → i ≤ 398 → 0 ≤ j → j < m 394 9 → m' i j = m i j) (h60 : n' 428 60 = n 428 60) (h51 : ∀ j, n' 451 j = n 451 j)
    (h56 : ∀ j, 0 ≤ j → j < 200 → (n' 456 j = 1 ↔ n 456 j = 1) ∧ (n 456 j = 1 → n' 455 j = n 455 j)) (hx : s_ex g g' (n 428 15)) (hmf : s_mf n n') : l_wt g' m' n' := by
  obtain ⟨w1, w2, w3, w4⟩ := h
  unfold l_wt
  rw [h9, h60]
  refine ⟨w1, fun i j q1 q2 q3 => ?_, fun i q1 q2 => ?_, fun x x0 x1 x2 => ?_⟩
  · rw [hm 396 i (by decide) (by decide) q1 (by omega), hm 396 j (by decide) (by decide) (by omega) q3]
    exact w2 i j q1 q2 q3
  · obtain ⟨t1, t2, t3, t4, t5⟩ := w3 i q1 q2
    have t := (ho (m 396 i) (by omega) (by omega)).root (by omega)
    have ta := t.1
    have tb := t.2.1
    have tc := t.2.2.1
    obtain ⟨u1, u2⟩ := h56 (m 396 i) (by omega) (by omega)
    rw [hm 396 i (by decide) (by decide) q1 q2, hm 398 i (by decide) (by decide) q1 q2, h51, u2 t3, (hx _ ta (by omega)).1, hmf.2.2.1 432 _ (by decide) (by decide) ta (by omega)]
    exact ⟨t1, t2, u1.mpr t3, t4, t5⟩
  · obtain ⟨i, q1, q2, q3⟩ := w4 x x0 x1 ((h56 x x0 x1).1.mp x2)
    exact ⟨i, q1, q2, by rw [hm 396 i (by decide) (by decide) q1 q2]; exact q3⟩
theorem l_I.mv (h : l_I g m n W L C) (hm : l_op m m') (h6 : m' 376 6 = 0) (hJ : 0 < m 394 9 → (∃ p, e_J m' W L p) ∧ m' 376 3 = 0) (hn : ∀ i j : Int, ¬ (i = 428 ∧ ((18 ≤ j ∧ j ≤ 26) ∨ (77 ≤ j ∧ j ≤ 79))) → ¬ (i = 440 ∧ n 428 17 ≤ j ∧ j < 140000) → n' i j = n i j) : l_I g m' n' W L C := by
  obtain ⟨i1, i2, i3, i4, i5, i6, i7, i8, i9, i10, i11, i12, i13, i14, i15⟩ := h
  have mf : s_mf n n' := by
    have e1 := hn 428 15 (by omega) (by omega)
    have e2 := hn 428 17 (by omega) (by omega)
    exact ⟨by omega, by omega, fun a b q1 q2 _ _ => hn a b (by omega) (by omega), fun b q => hn 440 b (by omega) (by omega)⟩
  have n428 : ∀ j : Int, ¬ ((18 ≤ j ∧ j ≤ 26) ∨ (77 ≤ j ∧ j ≤ 79)) → n' 428 j = n 428 j := fun j q => hn _ _ (by omega) (by omega)
  have big : ∀ i j : Int, 441 ≤ i → n' i j = n i j := fun i j q => hn _ _ (by omega) (by omega)
  refine ⟨i1.go hm.cf mf (hm _ _ (by omega)) (hm _ _ (by omega)) (n428 _ (by omega)) (n428 _ (by omega)), i2.fr hm.cf i1.1, i3.fr (hm _ _ (by omega)) (fun j => hm _ _ (by omega)), ⟨by rw [hm _ _ (by omega)]; exact i4.1, h6⟩, l_F.fr i5 (n428 _ (by omega)) (fun j => hn _ _ (by omega) (by omega)), by rw [n428 _ (by omega)]; exact i6, ?_, ?_, ?_, ?_, ?_, fun k q1 q2 => ?_, ?_, ?_, ?_⟩
  · unfold s_ct at i7 ⊢
    rw [hm _ _ (by omega), hm _ _ (by omega), n428 29 (by omega), n428 30 (by omega), n428 15 (by omega)]
    exact i7
  · unfold l_mx at i8 ⊢
    rw [hm 376 9 (by omega), hm 359 7 (by omega), n428 31 (by omega), n428 32 (by omega), n428 17 (by omega)]
    exact i8
  · rw [hm _ _ (by omega), hm _ _ (by omega), n428 60 (by omega)]
    exact i9
  · unfold l_dt at i10 ⊢
    rw [hm _ _ (by omega), n428 67 (by omega), n428 34 (by omega)]
    exact ⟨i10.1, i10.2.1, i10.2.2.1, fun i q1 q2 => by rw [hm _ _ (by omega), big _ _ (by decide)]; exact i10.2.2.2 i q1 q2⟩
  · exact l_tl.fr i11 i1 s_ex.rf hm.cf mf (fun j => hm _ _ (by omega)) (fun j hj => n428 _ (by omega))
  · exact (i12 k q1 q2).fr (fun i z1 z2 => hm _ _ (by omega)) (fun i z1 z2 => big _ _ (by omega)) (n428 _ (by omega)) (by rw [n428 34 (by omega)]; exact Int.le_refl _) i1 s_ex.rf mf
  · exact i13.fr i12 i9.1.2 (hm _ _ (by omega)) (fun i j z1 z2 _ _ => hm _ _ (by omega)) (n428 _ (by omega)) (fun j => big _ _ (by decide)) (fun j _ _ => ⟨by rw [big _ _ (by decide)], fun _ => big _ _ (by decide)⟩) s_ex.rf mf
  · refine i14.put i1 i12 s_ex.rf hm.cf (fun x _ _ z => ⟨by rw [big _ _ (by decide)]; exact z, big _ _ (by decide)⟩) (fun c q1 q2 => ?_)
    have := hm 359 6 (by omega)
    omega
  · rw [hm 394 9 (by omega)]
    exact hJ
/-- a tree has come, number k is its own -/
theorem l_I.put (h : l_I g m n W L C) (hk : 1 ≤ k ∧ k < n 428 60) (h0 : n 456 k = 0) (hm : ∀ i j : Int, ¬ (i = 359 ∧ (j = 6 ∨ j = 7)) → ¬ (360 ≤ i ∧ i ≤ 364 ∧ 41 ≤ j) → ¬ (i = 365 ∧ 8512 ≤ j) → ¬ (i = 376 ∧ j ≠ 8 ∧ j ≠ 9 ∧ j ≠ 10) → ¬ (369 ≤ i ∧ i ≤ 370 ∧ j = k) → ¬ (i = 394 ∧ j = 9) → ¬ (396 ≤ i ∧ i ≤ 398) → m2 i j = m i j)
    (hn : l_n1 n n2 k) (hc : s_cf m m2) (hmf : s_mf n n2) (hx : s_ex g g' (n 428 15)) (st : s_st g' m2 n2) (h6 : m2 376 6 = 0) (h27 : n2 428 27 = 0) (hct : s_ct m2 n2 376) (hmx : l_mx m2 n2) (e55 : n2 455 k = n 428 15) (e56 : n2 456 k ≠ 0)
    (cov : ∀ c, m 359 6 ≤ c → c < m2 359 6 → (∃ b, n 428 15 ≤ b ∧ b < g'.2.2.2.2.2 (n 428 15) ∧ g'.1 b = c) ∨ m2 360 c = 4) (hko : l_o g' m2 n2 C k) (hwt : l_wt g' m2 n2) (hJ : 0 < m2 394 9 → (∃ p, e_J m2 W L p) ∧ m2 376 3 = 0) : l_I g' m2 n2 W L C := by
  obtain ⟨i1, i2, i3, i4, i5, i6, i7, i8, i9, i10, i11, i12, i13, i14, i15⟩ := h
  have n428 : ∀ j : Int, j = 3 ∨ j = 34 ∨ j = 60 ∨ j = 63 ∨ j = 64 ∨ j = 67 → n2 428 j = n 428 j := fun j q => hn _ _ (by omega) (by omega) (by omega)
  refine ⟨st, i2.fr hc i1.1, i3.fr (hm _ _ (by omega) (by omega) (by omega) (by omega) (by omega) (by omega) (by omega)) (fun j => hm _ _ (by omega) (by omega) (by omega) (by omega) (by omega) (by omega) (by omega)), ⟨by rw [hm _ _ (by omega) (by omega) (by omega) (by omega) (by omega) (by omega) (by omega)]; exact i4.1, h6⟩,
    l_F.fr i5 (n428 _ (by omega)) (fun j => hn _ _ (by omega) (by omega) (by omega)), h27, hct, hmx, ?_, ?_, ?_, fun x q1 q2 => ?_, hwt, ?_, hJ⟩
  · rw [hm _ _ (by omega) (by omega) (by omega) (by omega) (by omega) (by omega) (by omega), hm _ _ (by omega) (by omega) (by omega) (by omega) (by omega) (by omega) (by omega), n428 60 (by omega)]
    exact i9
  · unfold l_dt at i10 ⊢
    rw [hm _ _ (by omega) (by omega) (by omega) (by omega) (by omega) (by omega) (by omega), n428 67 (by omega), n428 34 (by omega)]
    exact ⟨i10.1, i10.2.1, i10.2.2.1, fun i q1 q2 => by rw [hm _ _ (by omega) (by omega) (by omega) (by omega) (by omega) (by omega) (by omega), hn _ _ (by omega) (by omega) (by omega)]; exact i10.2.2.2 i q1 q2⟩
  · exact l_tl.fr i11 i1 hx hc hmf (fun j => hm _ _ (by omega) (by omega) (by omega) (by omega) (by omega) (by omega) (by omega)) (fun j hj => n428 _ (by omega))
  · by_cases q : x = k
    · rw [q]; exact hko
    · exact (i12 x q1 q2).fr (fun i z1 z2 => hm _ _ (by omega) (by omega) (by omega) (by omega) (by omega) (by omega) (by omega)) (fun i z1 z2 => hn _ _ (by omega) (by omega) (by omega)) (n428 _ (by omega)) (by rw [n428 34 (by omega)]; exact Int.le_refl _) i1 hx hmf
  · refine i14.put i1 i12 hx hc (fun x _ _ z => ?_) (fun c q1 q2 => ?_)
    · have xk : x ≠ k := fun e => z (by rw [e]; exact h0)
      rw [hn 456 x (by omega) (by omega) (by omega), hn 455 x (by omega) (by omega) (by omega)]
      exact ⟨z, rfl⟩
    · rcases cov c q1 q2 with ⟨b, b1, b2, b3⟩ | z
      · exact Or.inr ⟨k, b, by omega, by omega, e56, by rw [e55]; exact b1, by rw [e55]; exact b2, b3⟩
      · exact Or.inl z
end SE2
