/-! ===== the loader: what both know while objects are read ===== -/
theorem l_ns0 : w_ns [] := fun v hv => by cases hv
theorem l_nsc {v : w_V} {l : List w_V} (h : w_r v.1 v.2) (h2 : w_ns l) : w_ns (v :: l) := fun u hu => by
  rcases List.mem_cons.mp hu with e | hu
  · subst e; exact h
  · exact h2 u hu
theorem l_nsi {x : Int} {l : List w_V} (h : -2147483648 ≤ x ∧ x < 2147483648) (h2 : w_ns l) : w_ns ((0, x) :: l) := l_nsc (show w_r 0 x from h) h2
theorem l_nsr {x : Int} {l : List w_V} (h : 0 ≤ x) (h2 : w_ns l) : w_ns ((2, x) :: l) := l_nsc (show w_r 2 x from h) h2
/-- a tree that was read whole: its root at r, of the class from C on -/
def l_tr (g : s_g) (n : w_M) (C r : Int) : Prop :=
  0 ≤ r ∧ r < g.2.2.2.2.2 r ∧ g.2.2.2.2.2 r ≤ n 428 15 ∧ g.2.2.2.2.1 r = 21 ∧ g.2.2.1 r = -1 ∧ n 437 r = -1 ∧
  ∀ b, r ≤ b → b < g.2.2.2.2.2 r → C ≤ g.1 b ∧ g.2.2.2.1 b = b ∧ b < g.2.2.2.2.2 b ∧ g.2.2.2.2.2 b ≤ g.2.2.2.2.2 r ∧ ((n 432 b = 6 ∨ n 432 b = 7) → s_tl g.2.2.2.2.2 (b + 1) (g.2.1 b) (g.2.2.2.2.2 b)) ∧ (¬ (n 432 b = 6 ∨ n 432 b = 7) → g.2.2.2.2.2 b = b + 1) ∧ ((n 432 b = 6 ∨ n 432 b = 7) → ∀ t ∈ g.2.1 b, t < g.2.2.2.2.2 r)
/-- a stream or none -/
def l_sm (m n : w_M) (k : Int) : Prop := (n 457 k = 0 ∧ m 371 k = -1) ∨ (n 457 k = 1 ∧ n 432 (n 455 k) = 7 ∧ m 371 k = n 458 k ∧ m 372 k = n 459 k ∧ 0 ≤ n 458 k ∧ 0 ≤ n 459 k ∧ n 459 k ≤ 8000 ∧ n 458 k + n 459 k ≤ n 428 34)
/-- an object by its number -/
def l_o (g : s_g) (m n : w_M) (C k : Int) : Prop :=
  (n 451 k = 0 ∧ (1 ≤ k → m 367 k = 1) ∧ n 456 k = 0 ∧ n 457 k = 0 ∧ m 370 k = -1 ∧ m 371 k = -1) ∨
  ((1 ≤ k ∧ k < n 428 60) ∧ (n 451 k = 1 ∨ n 451 k = 2) ∧ m 367 k = n 451 k + 1 ∧ m 368 k = min (n 452 k) 2147483647 ∧ 0 ≤ n 452 k ∧ (0 ≤ n 453 k ∧ (n 451 k = 1 → n 456 k ≠ 0 → n 453 k ≤ 2147483647)) ∧ (n 456 k = 0 ∨ n 456 k = 1 ∨ n 456 k = 2) ∧ (n 451 k = 2 → n 456 k ≠ 1) ∧
   m 369 k = (if n 451 k = 2 ∧ n 456 k = 2 then 0 else if 2147483647 < n 453 k then -1 else n 453 k) ∧
   (n 456 k ≠ 0 → l_tr g n C (n 455 k)) ∧ (n 456 k ≠ 2 → m 370 k = -1 ∧ m 371 k = -1 ∧ n 457 k = 0) ∧ (n 456 k = 2 → m 370 k = g.1 (n 455 k) ∧ l_sm m n k))
/-- the streams that wait -/
def l_wt (g : s_g) (m n : w_M) : Prop := 0 ≤ m 394 9 ∧ (∀ i j, 0 ≤ i → i < j → j < m 394 9 → m 396 i ≠ m 396 j) ∧
  (∀ i, 0 ≤ i → i < m 394 9 → (1 ≤ m 396 i ∧ m 396 i < n 428 60) ∧ n 451 (m 396 i) = 1 ∧ n 456 (m 396 i) = 1 ∧ m 398 i = g.1 (n 455 (m 396 i)) ∧ n 432 (n 455 (m 396 i)) = 7) ∧
  ∀ k, 0 ≤ k → k < 200 → n 456 k = 1 → ∃ i, 0 ≤ i ∧ i < m 394 9 ∧ m 396 i = k
/-- nothing else has been read -/
def l_cv (g : s_g) (m n : w_M) (C : Int) : Prop := 41 ≤ C ∧ C ≤ m 359 6 ∧ ∀ c, C ≤ c → c < m 359 6 → m 360 c = 4 ∨ ∃ k b, 0 ≤ k ∧ k < 200 ∧ n 456 k ≠ 0 ∧ n 455 k ≤ b ∧ b < g.2.2.2.2.2 (n 455 k) ∧ g.1 b = c
def l_mx (m n : w_M) : Prop := n 428 32 ≠ 0 ∧ m 376 9 = 8512 ∧ m 359 7 = 8512 + n 428 31 ∧ 0 ≤ n 428 31 ∧ n 428 31 ≤ 60000 ∧ n 428 17 = n 428 31
def l_dt (m n : w_M) : Prop := n 428 67 = n 428 34 ∧ m 366 10 = n 428 34 ∧ (0 ≤ n 428 34 ∧ n 428 34 ≤ 40000) ∧ ∀ i, 0 ≤ i → i < n 428 34 → m 375 i = n 441 i
def l_I (g : s_g) (m n : w_M) (W : Int → Int) (L C : Int) : Prop :=
  s_st g m n ∧ s_kw m ∧ l_fb m W L ∧ (m 376 10 = 1 ∧ m 376 6 = 0) ∧ e_F n W L ∧ n 428 27 = 0 ∧ s_ct m n 376 ∧ l_mx m n ∧ ((1 ≤ n 428 60 ∧ n 428 60 ≤ 200) ∧ m 366 11 = n 428 60 ∧ m 366 12 = n 428 60) ∧ l_dt m n ∧ e_tl g m n ∧
  (∀ k, 0 ≤ k → k < 200 → l_o g m n C k) ∧ l_wt g m n ∧ l_cv g m n C ∧ (0 < m 394 9 → (∃ p, e_J m W L p) ∧ m 376 3 = 0)
/-- what the loader leaves alone -/
def l_c (m m' : w_M) : Prop := ∀ i j : Int, ¬ (i = 359 ∧ (j = 6 ∨ j = 7)) → ¬ (360 ≤ i ∧ i ≤ 364 ∧ 41 ≤ j) → ¬ (i = 365 ∧ 8512 ≤ j) → ¬ (i = 366 ∧ j = 10) → ¬ (369 ≤ i ∧ i ≤ 372) → ¬ (375 ≤ i ∧ i ≤ 390) → ¬ (i = 394 ∧ j = 9) → ¬ (396 ≤ i ∧ i ≤ 398) → m' i j = m i j
def l_n (n n' : w_M) : Prop := ∀ i j : Int, ¬ (i = 428 ∧ ((15 ≤ j ∧ j ≤ 29) ∨ j = 31 ∨ j = 34 ∨ (37 ≤ j ∧ j ≤ 40) ∨ j = 67 ∨ (77 ≤ j ∧ j ≤ 79))) → ¬ (432 ≤ i ∧ i ≤ 450) → ¬ (455 ≤ i ∧ i ≤ 459) → n' i j = n i j
/-- .. while a text is read -/
def l_c1 (m m' : w_M) : Prop := ∀ i j : Int, ¬ (i = 359 ∧ (j = 6 ∨ j = 7)) → ¬ (360 ≤ i ∧ i ≤ 364 ∧ 41 ≤ j) → ¬ (i = 365 ∧ 8512 ≤ j) → ¬ (i = 376 ∧ j ≠ 8 ∧ j ≠ 9 ∧ j ≠ 10) → m' i j = m i j
def l_n1 (n n' : w_M) (k : Int) : Prop := ∀ i j : Int, ¬ (i = 428 ∧ ((15 ≤ j ∧ j ≤ 29) ∨ j = 31 ∨ (77 ≤ j ∧ j ≤ 79))) → ¬ (432 ≤ i ∧ i ≤ 440) → ¬ ((i = 455 ∨ i = 456) ∧ j = k) → n' i j = n i j
def l_uc (n : w_M) : Nat → Int
  | 0 => 0
  | j + 1 => l_uc n j + (if n 456 (j + 1 : Int) = 0 then 1 else 0)
/-- how many have not been begun -/
def l_un (n : w_M) : Int := l_uc n 199
section SA2
variable {d : Nat} {g g' g2 : s_g} {m m' m1 m2 m3 n n' n1 n2 : w_M} {Q : Int → w_M → Prop} {W : Int → Int} {L p k v x y C r : Int}
theorem l_c.rf : l_c m m := fun _ _ _ _ _ _ _ _ _ _ => rfl
theorem l_c.tr (h : l_c m m') (h2 : l_c m' m2) : l_c m m2 := fun i j q1 q2 q3 q4 q5 q6 q7 q8 => (h2 i j q1 q2 q3 q4 q5 q6 q7 q8).trans (h i j q1 q2 q3 q4 q5 q6 q7 q8)
theorem l_n.rf : l_n n n := fun _ _ _ _ _ => rfl
theorem l_n.tr (h : l_n n n') (h2 : l_n n' n2) : l_n n n2 := fun i j q1 q2 q3 => (h2 i j q1 q2 q3).trans (h i j q1 q2 q3)
theorem l_c1.rf : l_c1 m m := fun _ _ _ _ _ _ => rfl
theorem l_c1.tr (h : l_c1 m m') (h2 : l_c1 m' m2) : l_c1 m m2 := fun i j q1 q2 q3 q4 => (h2 i j q1 q2 q3 q4).trans (h i j q1 q2 q3 q4)
theorem l_n1.tr (h : l_n1 n n' k) (h2 : l_n1 n' n2 k) : l_n1 n n2 k := fun i j q1 q2 q3 => (h2 i j q1 q2 q3).trans (h i j q1 q2 q3)
theorem l_c1.qc (h : l_c1 m m') : l_c m m' := fun i j q1 q2 q3 q4 q5 q6 q7 q8 => h i j q1 q2 q3 (by omega)
theorem l_n1.qn (h : l_n1 n n' k) : l_n n n' := fun i j q1 q2 q3 => h i j (by omega) (by omega) (by omega)
theorem l_op.q0 (h : l_op m m') : l_c1 m m' := fun i j q1 q2 q3 q4 => h i j (by omega)
theorem s_fp.q0 (h : s_fp m m' 376) (hb : s_bd m n) : l_c1 m m' := by
  unfold s_bd at hb
  exact fun i j q1 q2 q3 q4 => h.2.2 i j (by omega) (by omega) (by omega) (by omega)
theorem s_fr.q1 (h : s_fr n n') : l_n1 n n' k := fun i j q1 q2 q3 => h.2.2 i j (by omega) (by omega) (by omega)
theorem m_ag.q1 (h : m_ag n n') : l_n1 n n' k := fun i j q1 q2 q3 => h i j (by omega) (by omega)
theorem l_rh.q1 (h : l_rh n n' k) : l_n1 n n' k := fun i j q1 q2 q3 => h i j (by omega) (by omega) (by omega)
theorem l_rb.q1 (h : l_rb n n' k) : l_n1 n n' k := fun i j q1 q2 q3 => h i j (by omega) (by omega) (by omega)
theorem l_rh.mf (h : l_rh n n' k) : s_mf n n' := by
  have e1 := h 428 15 (by omega) (by omega) (by omega)
  have e2 := h 428 17 (by omega) (by omega) (by omega)
  exact ⟨by omega, by omega, fun a b q1 q2 _ _ => h a b (by omega) (by omega) (by omega), fun b q => h 440 b (by omega) (by omega) (by omega)⟩
theorem l_rb.mf (h : l_rb n n' k) : s_mf n n' := by
  have e1 := h 428 15 (by omega) (by omega) (by omega)
  have e2 := h 428 17 (by omega) (by omega) (by omega)
  exact ⟨by omega, by omega, fun a b q1 q2 _ _ => h a b (by omega) (by omega) (by omega), fun b q => h 440 b (by omega) (by omega) (by omega)⟩
theorem l_op.cf (h : l_op m m') : s_cf m m' := by
  have e1 := h 359 6 (by omega)
  have e2 := h 359 7 (by omega)
  exact ⟨by omega, by omega, fun a b q1 q2 _ _ => h a b (by omega), fun b _ => h 365 b (by omega)⟩
theorem l_uc_ge (n : w_M) : ∀ j : Nat, 0 ≤ l_uc n j := by
  intro j
  induction j with
  | zero => exact Int.le_refl _
  | succ j ih =>
    show 0 ≤ l_uc n j + (if n 456 (j + 1 : Int) = 0 then 1 else 0)
    split <;> omega
theorem l_uc_le (n : w_M) : ∀ j : Nat, l_uc n j ≤ j := by
  intro j
  induction j with
  | zero => exact Int.le_refl _
  | succ j ih =>
    show l_uc n j + (if n 456 (j + 1 : Int) = 0 then 1 else 0) ≤ ((j + 1 : Nat) : Int)
    split <;> omega
/-- one more was begun -/
theorem l_uc_up (hf : ∀ x, x ≠ k → n' 456 x = n 456 x) (h0 : n 456 k = 0) (h1 : n' 456 k ≠ 0) : ∀ j : Nat, l_uc n' j = l_uc n j - (if 1 ≤ k ∧ k ≤ (j : Int) then 1 else 0) := by
  intro j
  induction j with
  | zero =>
    show (0 : Int) = 0 - _
    rw [if_neg (by omega)]
    rfl
  | succ j ih =>
    show l_uc n' j + (if n' 456 (j + 1 : Int) = 0 then 1 else 0) = l_uc n j + (if n 456 (j + 1 : Int) = 0 then 1 else 0) - _
    rw [ih]
    by_cases q : (j + 1 : Int) = k
    · rw [q, if_neg h1, if_pos h0, if_neg (by omega), if_pos (by omega)]
      omega
    · rw [hf _ q]
      by_cases z : 1 ≤ k ∧ k ≤ (j : Int)
      · rw [if_pos z, if_pos (show 1 ≤ k ∧ k ≤ ((j + 1 : Nat) : Int) by omega)]
        omega
      · rw [if_neg z, if_neg (show ¬ (1 ≤ k ∧ k ≤ ((j + 1 : Nat) : Int)) by omega)]
        omega
theorem l_un_up (hk : 1 ≤ k ∧ k < 200) (hf : ∀ x, x ≠ k → n' 456 x = n 456 x) (h0 : n 456 k = 0) (h1 : n' 456 k ≠ 0) : l_un n' = l_un n - 1 := by
  have := l_uc_up hf h0 h1 199
  rw [if_pos (by omega)] at this
  exact this
theorem l_uc_eq (hf : ∀ x, n' 456 x = 0 ↔ n 456 x = 0) : ∀ j : Nat, l_uc n' j = l_uc n j := by
  intro j
  induction j with
  | zero => rfl
  | succ j ih =>
    show l_uc n' j + (if n' 456 (j + 1 : Int) = 0 then 1 else 0) = l_uc n j + (if n 456 (j + 1 : Int) = 0 then 1 else 0)
    rw [ih]
    by_cases q : n 456 (j + 1 : Int) = 0
    · rw [if_pos q, if_pos ((hf _).mpr q)]
    · rw [if_neg q, if_neg (fun z => q ((hf _).mp z))]
theorem l_un_0 (hk : 1 ≤ k ∧ k < 200) (h0 : n 456 k = 0) : 1 ≤ l_un n := by
  obtain ⟨n', hn'⟩ : ∃ n', n' = w_up n 456 k 1 := ⟨_, rfl⟩
  have := l_un_up (n' := n') hk (fun x hx => by rw [hn']; exact w_up_nb hx) h0 (by rw [hn', w_up_eq]; decide)
  have := l_uc_ge n' 199
  unfold l_un at *
  omega
theorem l_tr.fr (h : l_tr g n C r) (hst : s_st g m n) (hx : s_ex g g' (n 428 15)) (hmf : s_mf n n') : l_tr g' n' C r := by
  obtain ⟨a0, a1, a2, a3, a4, a5, a6⟩ := h
  obtain ⟨e1, e2, e3, e4, e5, e6⟩ := hx r a0 (by omega)
  unfold l_tr
  rw [e3, e5, e6, hmf.2.2.1 437 r (by decide) (by decide) a0 (by omega)]
  refine ⟨a0, a1, by have := hmf.1; omega, a3, a4, a5, fun b q1 q2 => ?_⟩
  obtain ⟨f1, f2, f3, f4, f5, f6⟩ := hx b (by omega) (by omega)
  obtain ⟨b1, b2, b3, b4, b5, b6, b7⟩ := a6 b q1 q2
  rw [f1, f2, f4, f6, hmf.2.2.1 432 b (by decide) (by decide) (by omega) (by omega)]
  refine ⟨b1, b2, b3, b4, fun z => ?_, b6, b7⟩
  have mem := (hst.2.2.2.2 b (by omega) (by omega) z).1.1.mem
  exact (b5 z).frx _ _ _ (fun y hy => (hx y (mem y hy).1 (mem y hy).2).2.2.2.2.2)
theorem l_tr.of (h : s_tp g m n m1 n1 21) (hst : s_st g m1 n1) (hC : C ≤ m 359 6) (h0 : 0 ≤ n 428 15) : l_tr g n1 C (n 428 15) := by
  obtain ⟨p1, p2, p3, p4, p5, p6, p7, p8, p9, p10⟩ := h
  unfold l_tr
  rw [p6]
  refine ⟨h0, p7, Int.le_refl _, p2, p3, p4, fun b q1 q2 => ?_⟩
  obtain ⟨b1, b2, b3, b4, b5, b6⟩ := p9 b q1 q2
  exact ⟨by omega, b2, b3, b4, b5, b6, fun z t ht => ((hst.2.2.2.2 b (by omega) q2 z).1.1.mem t ht).2⟩
theorem l_o.fr (h : l_o g m n C k) (hm : ∀ i, 367 ≤ i → i ≤ 372 → m' i k = m i k) (hn : ∀ i, 451 ≤ i → i ≤ 459 → n' i k = n i k) (h60 : n' 428 60 = n 428 60) (h34 : n 428 34 ≤ n' 428 34) (hst : s_st g m n) (hx : s_ex g g' (n 428 15)) (hmf : s_mf n n') : l_o g' m' n' C k := by
  unfold l_o l_sm at h ⊢
  rw [hm 367 (by decide) (by decide), hm 368 (by decide) (by decide), hm 369 (by decide) (by decide), hm 370 (by decide) (by decide), hm 371 (by decide) (by decide), hm 372 (by decide) (by decide),
    hn 451 (by decide) (by decide), hn 452 (by decide) (by decide), hn 453 (by decide) (by decide), hn 455 (by decide) (by decide), hn 456 (by decide) (by decide), hn 457 (by decide) (by decide), hn 458 (by decide) (by decide), hn 459 (by decide) (by decide), h60]
  rcases h with h | ⟨a1, a2, a3, a4, a5, a6, a7, a8, a9, b1, b2, b3⟩
  · exact Or.inl h
  · refine Or.inr ⟨a1, a2, a3, a4, a5, a6, a7, a8, a9, fun z => (b1 z).fr hst hx hmf, b2, fun z => ?_⟩
    have t := b1 (by omega)
    have t1 := t.1
    have t2 : n 455 k < n 428 15 := by have := t.2.1; have := t.2.2.1; omega
    rw [(hx _ t1 t2).1, hmf.2.2.1 432 _ (by decide) (by decide) t1 t2]
    obtain ⟨c1, c2⟩ := b3 z
    refine ⟨c1, ?_⟩
    rcases c2 with c2 | ⟨c2, c3, c4, c5, c6, c7, c8, c9⟩
    · exact Or.inl c2
    · exact Or.inr ⟨c2, c3, c4, c5, c6, c7, c8, by omega⟩
theorem l_tl.fr (h : e_tl g m n) (hst : s_st g m n) (hx : s_ex g g' (n 428 15)) (hc : s_cf m m') (hmf : s_mf n n') (hm : ∀ j : Int, m' 391 j = m 391 j) (hn : ∀ j : Int, j = 60 ∨ j = 63 ∨ j = 64 → n' 428 j = n 428 j) : e_tl g' m' n' := by
  obtain ⟨t1, t2, t3, t4, t5, t6, t7, t8, t9, t10, t11, t12⟩ := h
  unfold e_tl
  rw [hn 64 (by decide), hn 60 (by decide), hn 63 (by decide), hm, hm, hm, hm]
  obtain ⟨x1, x2, x3, x4, x5, x6⟩ := hx _ t1 t2
  rw [x1, x3, x5, x6]
  exact ⟨t1, by have := hmf.1; omega, by rw [hmf.2.2.1 432 _ (by decide) (by decide) t1 t2]; exact t3, t4, by rw [z_wh.fr hst hx hmf ⟨t1, t2⟩ t3]; exact t5, t6, t7, t8, by have := hmf.1; omega, by have := hc.1; omega, t11, t12.1.frx hst hx hc hmf t1 t9 t10 t11, t12.2.1, fun b q1 q2 => ⟨by rw [(hx b (by omega) (by omega)).1]; exact (t12.2.2 b q1 q2).1, fun w => by
    rw [hmf.2.2.1 432 b (by decide) (by decide) (by omega) (by omega)] at w
    rw [(hx b (by omega) (by omega)).2.1]
    exact (t12.2.2 b q1 q2).2 w⟩⟩
theorem l_fb.fr (h : l_fb m W L) (h1 : m' 394 1 = m 394 1) (h2 : ∀ j, m' 395 j = m 395 j) : l_fb m' W L :=
  ⟨h.1, h.2.1, by rw [h1]; exact h.2.2.1, fun i q1 q2 => by rw [h2]; exact h.2.2.2 i q1 q2⟩
theorem l_F.fr (h : e_F n W L) (h1 : n' 428 3 = n 428 3) (h2 : ∀ j, n' 430 j = n 430 j) : e_F n' W L :=
  ⟨h.1, h.2.1, by rw [h1]; exact h.2.2.1, fun i q1 q2 => by rw [h2]; exact h.2.2.2 i q1 q2⟩
/-- covered still, where trees have come -/
theorem l_cv.put (h : l_cv g m n C) (hst : s_st g m n) (ho : ∀ k, 0 ≤ k → k < 200 → l_o g m n C k) (hx : s_ex g g' (n 428 15)) (hc : s_cf m m') (hn : ∀ x, 0 ≤ x → x < 200 → n 456 x ≠ 0 → n' 456 x ≠ 0 ∧ n' 455 x = n 455 x)
    (hN : ∀ c, m 359 6 ≤ c → c < m' 359 6 → m' 360 c = 4 ∨ ∃ k b, 0 ≤ k ∧ k < 200 ∧ n' 456 k ≠ 0 ∧ n' 455 k ≤ b ∧ b < g'.2.2.2.2.2 (n' 455 k) ∧ g'.1 b = c) : l_cv g' m' n' C := by
  obtain ⟨a1, a2, a3⟩ := h
  have c1 := hc.1
  refine ⟨a1, by omega, fun c q1 q2 => ?_⟩
  by_cases q : c < m 359 6
  · rcases a3 c q1 q with z | ⟨k, b, z1, z2, z3, z4, z5, z6⟩
    · refine Or.inl ?_
      rw [hc.2.2.1 360 c (by decide) (by decide) (by omega) q]
      exact z
    · refine Or.inr ⟨k, b, z1, z2, (hn k z1 z2 z3).1, ?_, ?_, ?_⟩
      · rw [(hn k z1 z2 z3).2]; exact z4
      · have t : l_tr g n C (n 455 k) := by
          rcases ho k z1 z2 with w | w
          · exact absurd w.2.2.1 z3
          · exact w.2.2.2.2.2.2.2.2.2.1 z3
        have t1 := t.1
        have t2 := t.2.1
        have t3 := t.2.2.1
        rw [(hn k z1 z2 z3).2, (hx _ t1 (by omega)).2.2.2.2.2]
        exact z5
      · have t : l_tr g n C (n 455 k) := by
          rcases ho k z1 z2 with w | w
          · exact absurd w.2.2.1 z3
          · exact w.2.2.2.2.2.2.2.2.2.1 z3
        have t1 := t.1
        have t3 := t.2.2.1
        rw [(hx b (by omega) (by omega)).1]
        exact z6
  · exact hN c (by omega) q2
theorem e_kn.of (h : l_o g m n C k) (h1 : n 451 k = 1) : e_kn m n k := by
  rcases h with h | ⟨a1, a2, a3, a4, a5, a6, a7, a8, a9, b1, b2, b3⟩
  · omega
  · refine Or.inr ⟨by omega, by omega, by omega, a3, a4, ?_, a5, a6.1⟩
    rw [a9, if_neg (by omega)]
end SA2
