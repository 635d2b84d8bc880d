/-! ===== an open document's objects: references are followed alike ===== -/
def o_gn (n : w_M) (k : Int) : Int := if n 451 k = 2 then 0 else n 453 k
/-- a number -/
def o_k (g : s_g) (m n : w_M) (k : Int) : Prop :=
  (n 451 k = 0 ∧ (1 ≤ k → m 367 k = 1) ∧ n 457 k = 0 ∧ m 371 k = -1) ∨
  ((1 ≤ k ∧ k < n 428 60) ∧ (n 451 k = 1 ∨ n 451 k = 2) ∧ m 367 k ≠ 1 ∧ m 369 k = o_gn n k ∧ (0 ≤ o_gn n k ∧ o_gn n k ≤ 2147483647) ∧ (0 ≤ n 455 k ∧ n 455 k < n 428 15 ∧ g.2.2.2.2.1 (n 455 k) = 21) ∧ m 370 k = g.1 (n 455 k) ∧ l_sm m n k)
def o_I (g : s_g) (m n : w_M) : Prop := s_st g m n ∧ s_kw m ∧ ((1 ≤ n 428 60 ∧ n 428 60 ≤ 200) ∧ m 366 11 = n 428 60) ∧ l_dt m n ∧ ∀ k, 0 ≤ k → k < 200 → o_k g m n k
def o_ok (n : w_M) (y : Int) : Prop := n 433 y < n 428 60 ∧ n 451 (n 433 y) ≠ 0 ∧ o_gn n (n 433 y) = n 434 y
/-- where a row of references leads: the node (-1: none), the last number (0: none) -/
noncomputable def o_rs (n : w_M) : Nat → Int → Int → Int × Int
  | 0, _, _ => (-1, 0)
  | f + 1, y, l => by
    classical
    exact if y < 0 then (-1, 0) else if n 432 y = 8 then (if o_ok n y then o_rs n f (n 455 (n 433 y)) (n 433 y) else (-1, 0)) else (y, l)
noncomputable def o_re (n : w_M) (y : Int) : Int := (o_rs n 21 y 0).1
noncomputable def o_ln (n : w_M) (y : Int) : Int := (o_rs n 21 y 0).2
/-- a node of the class, where the null node stands for none -/
def o_up (g : s_g) (z : Int) : Int := if z < 0 then 0 else g.1 z
def o_isd (n : w_M) (y : Int) : Prop := 0 ≤ o_re n y ∧ n 432 (o_re n y) = 7 ∧ n 457 (o_ln n y) = 0
section OA
variable {d f : Nat} {g g' : s_g} {m m' m1 m2 n n' n1 n2 : w_M} {Q R : Int → w_M → Prop} {p k v x y r b i l t s : Int}
theorem o_rs_n (hy : y < 0) : o_rs n f y l = (-1, 0) := by
  cases f with
  | zero => rfl
  | succ f => exact if_pos hy
theorem o_rs_p (hy : 0 ≤ y) (h8 : n 432 y ≠ 8) : o_rs n (f + 1) y l = (y, l) := by
  have : o_rs n (f + 1) y l = if y < 0 then (-1, 0) else if n 432 y = 8 then _ else (y, l) := rfl
  rw [this, if_neg (by omega), if_neg h8]
theorem o_rs_y (hy : 0 ≤ y) (h8 : n 432 y = 8) (ho : o_ok n y) : o_rs n (f + 1) y l = o_rs n f (n 455 (n 433 y)) (n 433 y) := by
  have : o_rs n (f + 1) y l = (by
    classical
    exact if y < 0 then (-1, 0) else if n 432 y = 8 then (if o_ok n y then o_rs n f (n 455 (n 433 y)) (n 433 y) else (-1, 0)) else (y, l)) := rfl
  rw [this, if_neg (by omega), if_pos h8, if_pos ho]
theorem o_rs_w (hy : 0 ≤ y) (h8 : n 432 y = 8) (ho : ¬ o_ok n y) : o_rs n (f + 1) y l = (-1, 0) := by
  have : o_rs n (f + 1) y l = (by
    classical
    exact if y < 0 then (-1, 0) else if n 432 y = 8 then (if o_ok n y then o_rs n f (n 455 (n 433 y)) (n 433 y) else (-1, 0)) else (y, l)) := rfl
  rw [this, if_neg (by omega), if_pos h8, if_neg ho]
/-- a used number -/
def o_u (n : w_M) (k : Int) : Prop := 1 ≤ k ∧ k < n 428 60 ∧ n 451 k ≠ 0
theorem o_I.num (h : o_I g m n) (hu : o_u n k) : k < 200 ∧ l_us m k ∧ m 366 11 ≤ 200 ∧ m 369 k = o_gn n k ∧ (0 ≤ o_gn n k ∧ o_gn n k ≤ 2147483647) ∧ (0 ≤ n 455 k ∧ n 455 k < n 428 15 ∧ g.2.2.2.2.1 (n 455 k) = 21) ∧ m 370 k = g.1 (n 455 k) ∧ l_sm m n k := by
  obtain ⟨i1, i2, i3, i4, i5⟩ := h
  obtain ⟨u1, u2, u3⟩ := hu
  obtain ⟨a1, a2, a3, a4, a5, a6, a7, a8⟩ := (i5 k (by omega) (by omega)).resolve_left (fun z => u3 z.1)
  exact ⟨by omega, ⟨by omega, by omega, a3⟩, by omega, a4, a5, a6, a7, a8⟩
theorem o_I.n0 (h : o_I g m n) (hk : 0 ≤ k ∧ k < 200) (hu : ¬ o_u n k) : n 451 k = 0 ∧ n 457 k = 0 ∧ ¬ l_us m k := by
  obtain ⟨i1, i2, i3, i4, i5⟩ := h
  rcases i5 k hk.1 hk.2 with ⟨a1, a2, a3, a4⟩ | a
  · exact ⟨a1, a3, fun z => z.2.2 (a2 (by have := z.1; omega))⟩
  · exact absurd ⟨a.1.1, a.1.2, by have := a.2.1; omega⟩ hu
theorem o_I.ref (h : o_I g m n) (hy : 0 ≤ y ∧ y < n 428 15) (h8 : n 432 y = 8) : (1 ≤ n 433 y ∧ n 433 y < 200) ∧ (0 ≤ n 434 y ∧ n 434 y ≤ 65535) ∧ m 360 (g.1 y) = 8 ∧ m 361 (g.1 y) = n 433 y ∧ m 362 (g.1 y) = n 434 y ∧ (41 ≤ g.1 y ∧ g.1 y < m 359 6 ∧ m 359 6 ≤ 16564) := by
  have nd := h.1.2.1 y hy.1 hy.2
  have bd := h.1.1
  unfold s_bd at bd
  obtain ⟨a1, a2, a3, a4, a5, a6, a7, _⟩ := nd
  have := a7 h8
  exact ⟨⟨this.2.1, this.2.2.1⟩, this.2.2.2, by omega, a6 (Or.inr h8), this.1, ⟨a1, a2, by omega⟩⟩
theorem o_ok.us (h : o_I g m n) (hy : 0 ≤ y ∧ y < n 428 15) (h8 : n 432 y = 8) (ho : o_ok n y) : o_u n (n 433 y) := ⟨(h.ref hy h8).1.1, ho.1, ho.2.1⟩
/-- what comes of it -/
theorem o_rs_c (h : o_I g m n) : ∀ (f : Nat) (y l : Int), s_no n y → o_rs n f y l = (-1, 0) ∨ (0 ≤ y ∧ y < n 428 15 ∧ n 432 y ≠ 8 ∧ o_rs n f y l = (y, l)) ∨ (0 ≤ y ∧ y < n 428 15 ∧ n 432 y = 8 ∧ ∃ t, o_u n t ∧ n 432 (n 455 t) ≠ 8 ∧ o_rs n f y l = (n 455 t, t)) := by
  intro f
  induction f with
  | zero => intro y l _; exact Or.inl rfl
  | succ f ih =>
    intro y l hy
    rcases hy with hy | hy
    · exact Or.inl (o_rs_n (by omega))
    · by_cases h8 : n 432 y = 8
      · by_cases ho : o_ok n y
        · have u := ho.us h hy h8
          obtain ⟨k1, k2, k3, k4, k5, k6, k7, k8⟩ := h.num u
          rw [o_rs_y hy.1 h8 ho]
          rcases ih (n 455 (n 433 y)) (n 433 y) (Or.inr ⟨k6.1, k6.2.1⟩) with z | ⟨z1, z2, z3, z4⟩ | ⟨z1, z2, z3, t, z4, z5, z6⟩
          · exact Or.inl z
          · exact Or.inr (Or.inr ⟨hy.1, hy.2, h8, n 433 y, u, z3, z4⟩)
          · exact Or.inr (Or.inr ⟨hy.1, hy.2, h8, t, z4, z5, z6⟩)
        · exact Or.inl (o_rs_w hy.1 h8 ho)
      · exact Or.inr (Or.inl ⟨hy.1, hy.2, h8, o_rs_p hy.1 h8⟩)
/-- .. of a node at hand -/
theorem o_cs (h : o_I g m n) (hy : s_no n y) : (o_re n y = -1 ∧ o_ln n y = 0) ∨ (0 ≤ y ∧ y < n 428 15 ∧ n 432 y ≠ 8 ∧ o_re n y = y ∧ o_ln n y = 0) ∨ (0 ≤ y ∧ y < n 428 15 ∧ n 432 y = 8 ∧ o_u n (o_ln n y) ∧ n 432 (o_re n y) ≠ 8 ∧ o_re n y = n 455 (o_ln n y)) := by
  unfold o_re o_ln
  rcases o_rs_c h 21 y 0 hy with z | ⟨z1, z2, z3, z4⟩ | ⟨z1, z2, z3, t, z4, z5, z6⟩
  · rw [z]; exact Or.inl ⟨rfl, rfl⟩
  · rw [z4]; exact Or.inr (Or.inl ⟨z1, z2, z3, rfl, rfl⟩)
  · rw [z6]; exact Or.inr (Or.inr ⟨z1, z2, z3, z4, z5, rfl⟩)
theorem o_re_no (h : o_I g m n) (hy : s_no n y) : s_no n (o_re n y) := by
  rcases o_cs h hy with z | z | z
  · exact Or.inl z.1
  · exact Or.inr ⟨by omega, by omega⟩
  · have := (h.num z.2.2.2.1).2.2.2.2.2.1
    rw [z.2.2.2.2.2]
    exact Or.inr ⟨this.1, this.2.1⟩
theorem o_ln_r (h : o_I g m n) (hy : s_no n y) : 0 ≤ o_ln n y ∧ o_ln n y < 200 ∧ (o_ln n y ≠ 0 → o_u n (o_ln n y)) := by
  have l2 := h.2.2.1
  rcases o_cs h hy with z | z | z
  · rw [z.2]; exact ⟨by decide, by decide, fun w => absurd rfl w⟩
  · rw [z.2.2.2.2]; exact ⟨by decide, by decide, fun w => absurd rfl w⟩
  · have u := z.2.2.2.1
    have u1 := u.1
    have u2 := u.2.1
    exact ⟨by omega, by omega, fun _ => u⟩
/-- no function of references looks at 80, nor at what the tree writes -/
theorem o_rs_fr (hn : ∀ i j : Int, 432 ≤ i → i ≤ 459 → n' i j = n i j) (h60 : n' 428 60 = n 428 60) : ∀ (f : Nat) (y l : Int), o_rs n' f y l = o_rs n f y l := by
  have ok : ∀ y, o_ok n' y ↔ o_ok n y := fun y => by
    unfold o_ok o_gn
    rw [h60, hn 433 y (by decide) (by decide), hn 434 y (by decide) (by decide), hn 451 _ (by decide) (by decide), hn 453 _ (by decide) (by decide)]
  intro f
  induction f with
  | zero => intro y l; rfl
  | succ f ih =>
    intro y l
    by_cases hy : y < 0
    · rw [o_rs_n hy, o_rs_n hy]
    · by_cases h8 : n 432 y = 8
      · have h8' : n' 432 y = 8 := by rw [hn _ _ (by decide) (by decide)]; exact h8
        by_cases ho : o_ok n y
        · rw [o_rs_y (by omega) h8 ho, o_rs_y (by omega) h8' ((ok y).mpr ho), ih, hn 455 _ (by decide) (by decide), hn 433 y (by decide) (by decide)]
        · rw [o_rs_w (by omega) h8 ho, o_rs_w (by omega) h8' (fun z => ho ((ok y).mp z))]
      · rw [o_rs_p (by omega) h8, o_rs_p (by omega) (by rw [hn _ _ (by decide) (by decide)]; exact h8)]
theorem o_re_fr (hn : ∀ i j : Int, 432 ≤ i → i ≤ 459 → n' i j = n i j) (h60 : n' 428 60 = n 428 60) : o_re n' y = o_re n y := by
  unfold o_re
  rw [o_rs_fr hn h60]
theorem o_ln_fr (hn : ∀ i j : Int, 432 ≤ i → i ≤ 459 → n' i j = n i j) (h60 : n' 428 60 = n 428 60) : o_ln n' y = o_ln n y := by
  unfold o_ln
  rw [o_rs_fr hn h60]
theorem s_fd_fr (hn : ∀ i j : Int, 438 ≤ i → i ≤ 440 → n' i j = n i j) : ∀ (w L : List Int), s_fd n' w L = s_fd n w L := by
  intro w L
  induction L with
  | nil => rfl
  | cons y L ih =>
    have e : s_is n' (n' 438 y) (n' 439 y) w ↔ s_is n (n 438 y) (n 439 y) w := by
      unfold s_is
      rw [hn 438 y (by decide) (by decide), hn 439 y (by decide) (by decide)]
      simp only [fun b => hn 440 b (by decide) (by decide)]
    by_cases z : s_is n (n 438 y) (n 439 y) w
    · rw [s_fd_y z, s_fd_y (e.mpr z)]
    · rw [s_fd_n z, s_fd_n (fun w => z (e.mp w)), ih]
theorem s_nk_fr (hn : ∀ i j : Int, 432 ≤ i → i ≤ 440 → n' i j = n i j) (w : List Int) : s_nk n' y w ↔ s_nk n y w := by
  unfold s_nk s_is
  rw [hn 432 y (by decide) (by decide), hn 435 y (by decide) (by decide), hn 436 y (by decide) (by decide)]
  simp only [fun b => hn 440 b (by decide) (by decide)]
/-- the objects stand on -/
theorem o_I.fr (h : o_I g m n) (hm : ∀ i j : Int, ¬ (i = 359 ∧ (j = 6 ∨ j = 7)) → (359 ≤ i ∧ i ≤ 375) → ¬ (i = 366 ∧ j ≠ 10 ∧ j ≠ 11) → m' i j = m i j) (h6 : m' 359 6 = m 359 6) (h7 : m' 359 7 = m 359 7)
    (hn : ∀ i j : Int, 432 ≤ i → i ≤ 459 → n' i j = n i j) (h428 : ∀ j : Int, j = 15 ∨ j = 17 ∨ j = 34 ∨ j = 60 ∨ j = 67 → n' 428 j = n 428 j) : o_I g m' n' := by
  obtain ⟨i1, i2, i3, i4, i5⟩ := h
  have cf : s_cf m m' := ⟨by omega, by omega, fun a b q1 q2 _ _ => hm a b (by omega) (by omega) (by omega), fun b _ => hm 365 b (by omega) (by omega) (by omega)⟩
  have mf : s_mf n n' := ⟨by rw [h428 15 (by omega)]; exact Int.le_refl _, by rw [h428 17 (by omega)]; exact Int.le_refl _, fun a b q1 q2 _ _ => hn a b (by omega) (by omega), fun b _ => hn 440 b (by decide) (by decide)⟩
  refine ⟨i1.go cf mf h6 h7 (h428 _ (by omega)) (h428 _ (by omega)), i2.fr cf i1.1, ?_, ?_, fun k q1 q2 => ?_⟩
  · rw [h428 60 (by omega), hm 366 11 (by omega) (by omega) (by omega)]
    exact i3
  · unfold l_dt at i4 ⊢
    rw [h428 67 (by omega), h428 34 (by omega), hm 366 10 (by omega) (by omega) (by omega)]
    exact ⟨i4.1, i4.2.1, i4.2.2.1, fun i z1 z2 => by rw [hm 375 i (by omega) (by omega) (by omega), hn 441 i (by decide) (by decide)]; exact i4.2.2.2 i z1 z2⟩
  · have := i5 k q1 q2
    unfold o_k o_gn l_sm at this ⊢
    rw [h428 60 (by omega), h428 15 (by omega), h428 34 (by omega), hm 367 k (by omega) (by omega) (by omega), hm 369 k (by omega) (by omega) (by omega), hm 370 k (by omega) (by omega) (by omega), hm 371 k (by omega) (by omega) (by omega), hm 372 k (by omega) (by omega) (by omega), hn 432 _ (by decide) (by decide), hn 451 k (by decide) (by decide), hn 453 k (by decide) (by decide), hn 455 k (by decide) (by decide), hn 457 k (by decide) (by decide), hn 458 k (by decide) (by decide), hn 459 k (by decide) (by decide)]
    exact this
/-- the class's target -/
theorem c_tg (h : o_I g m n) : ∀ (f : Nat) (y l i : Int), i + f = 21 → 0 ≤ i → 0 ≤ y ∧ y < n 428 15 → Q (o_rs n f y l).2 m → xp_ta_target_7 d (g.1 y) l i m Q := by
  intro f
  induction f with
  | zero =>
    intro y l i hi i0 hy hQ
    apply xr_ta_target_7
    rw [if_pos (by omega)]
    exact hQ
  | succ f ih =>
    intro y l i hi i0 hy hQ
    have nd := h.1.2.1 y hy.1 hy.2
    have bd := h.1.1
    unfold s_bd at bd
    have n1 := nd.1
    have n2 := nd.2.1
    have n3 := nd.2.2.1
    apply xr_ta_target_7
    rw [if_neg (by omega), if_neg (by omega), if_pos n2, if_pos (by omega), w_32_id (x := i + 1) (by omega) (by omega), n3]
    refine ⟨by omega, ?_⟩
    by_cases h8 : n 432 y = 8
    · obtain ⟨e1, e2, e3, e4, e5, e6⟩ := h.ref hy h8
      rw [if_pos h8, e4, e5, if_pos (by omega), h.2.2.1.2]
      refine ⟨by omega, ?_⟩
      by_cases ho : o_ok n y
      · rw [o_rs_y hy.1 h8 ho] at hQ
        have u := ho.us h hy h8
        obtain ⟨k1, k2, k3, k4, k5, k6, k7, k8⟩ := h.num u
        rw [if_pos ho.1, if_pos k1, if_neg k2.2.2, k4, if_pos ho.2.2, k7]
        exact ⟨by omega, by omega, by omega, by omega, ih _ _ _ (by omega) (by omega) ⟨k6.1, k6.2.1⟩ hQ⟩
      · rw [o_rs_w hy.1 h8 ho] at hQ
        refine z_ite (fun z1 => ?_) (fun _ => hQ)
        refine z_ite (fun z2 => ?_) (fun _ => hQ)
        refine ⟨by omega, ?_⟩
        refine z_ite (fun _ => hQ) (fun z3 => ⟨by omega, by omega, ?_⟩)
        refine z_ite (fun z4 => ?_) (fun _ => hQ)
        exfalso
        by_cases u : o_u n (n 433 y)
        · obtain ⟨k1, k2, k3, k4, k5, k6, k7, k8⟩ := h.num u
          exact ho ⟨z1, u.2.2, by rw [← k4]; exact z4⟩
        · exact (h.n0 ⟨by omega, z2⟩ u).2.2 ⟨by omega, by rw [h.2.2.1.2]; exact z1, z3⟩
    · rw [if_neg h8]
      rw [o_rs_p hy.1 h8] at hQ
      exact hQ
theorem c_target (h : o_I g m n) (hy : s_no n y) (hQ : Q (o_ln n y) m) : xc_ta_target (d + 1) (s_up g.1 y) m Q := by
  apply xr_ta_target
  rcases hy with hy | hy
  · unfold o_ln at hQ
    rw [o_rs_n (by omega)] at hQ
    rw [s_up_n (by omega)]
    apply xr_ta_target_7
    rw [if_neg (by decide), if_pos (by decide)]
    exact hQ
  · rw [s_up_y hy.1]
    exact c_tg h 21 y 0 0 (by decide) (by decide) hy hQ
theorem c_root_y (h : o_I g m n) (hu : o_u n k) (hQ : Q (g.1 (n 455 k)) m) : xc_ta_rootOf (d + 1) k m Q := by
  obtain ⟨k1, k2, k3, k4, k5, k6, k7, k8⟩ := h.num hu
  exact sp_rootOf_y (d := d) k2 k3 (by rw [k7]; exact hQ)
theorem c_root_n (hu : ¬ l_us m k) (hQ : Q (-1) m) : xc_ta_rootOf (d + 1) k m Q := by
  apply xr_ta_rootOf
  refine z_ite (fun q1 => ?_) (fun _ => hQ)
  refine z_ite (fun q2 => ?_) (fun _ => hQ)
  refine z_ite (fun q3 => ?_) (fun _ => hQ)
  refine ⟨by omega, ?_⟩
  refine z_ite (fun _ => hQ) (fun q4 => absurd ⟨q1, q2, q4⟩ hu)
theorem c_value (h : o_I g m n) (hy : s_no n y) (hQ : Q (o_up g (o_re n y)) m) : xc_ta_value (d + 3) (s_up g.1 y) m Q := by
  have bd := h.1.1
  unfold s_bd at bd
  apply xr_ta_value
  refine sp_st_holds (d := d + 1) ?_
  rcases hy with hy | hy
  · unfold o_re at hQ
    rw [o_rs_n (by omega)] at hQ
    rw [s_up_n (by omega)]
    have : f_st_holds m (-1) = 0 := by
      unfold f_st_holds
      rw [if_pos (by decide)]
    rw [this, if_pos rfl]
    exact hQ
  · have nd := h.1.2.1 y hy.1 hy.2
    have n1 := nd.1
    have n2 := nd.2.1
    rw [s_up_y hy.1, f_holds_v ⟨by omega, n2⟩ (by omega), if_neg (by decide)]
    refine sp_st_kindOf (d := d + 1) ?_
    rw [f_kind_v ⟨by omega, n2⟩ (by omega), nd.2.2.1]
    have cs := o_cs h (Or.inr hy)
    by_cases h8 : n 432 y = 8
    · rw [if_pos h8]
      have tg := c_target (d := d + 1) (Q := fun r3 m3 => xc_ta_rootOf (d + 2) r3 m3 (fun r4 m4 => Q (max 0 r4) m4)) h (Or.inr hy)
      rw [s_up_y hy.1] at tg
      refine tg ?_
      rcases cs with z | z | z
      · rw [z.2]
        rw [z.1] at hQ
        refine c_root_n (d := d + 1) (fun w => by have := w.1; omega) ?_
        exact hQ
      · exact absurd h8 z.2.2.1
      · obtain ⟨z1, z2, z3, z4, z5, z6⟩ := z
        refine c_root_y (d := d + 1) h z4 ?_
        have no := o_re_no h (Or.inr hy)
        obtain ⟨k1, k2, k3, k4, k5, k6, k7, k8⟩ := h.num z4
        have g41 := (h.1.2.1 _ k6.1 k6.2.1).1
        rw [z6] at hQ
        unfold o_up at hQ
        rw [if_neg (by omega)] at hQ
        rw [show max 0 (g.1 (n 455 (o_ln n y))) = g.1 (n 455 (o_ln n y)) by omega]
        exact hQ
    · rw [if_neg h8]
      rcases cs with z | z | z
      · exfalso
        unfold o_re at z
        rw [o_rs_p hy.1 h8] at z
        omega
      · rw [z.2.2.2.1] at hQ
        unfold o_up at hQ
        rw [if_neg (by omega)] at hQ
        exact hQ
      · exact absurd z.2.2.1 h8
theorem o_kd0 (h : o_I g m n) : f_st_kindOf m 0 = 0 := by
  have bd := h.1.1
  unfold s_bd at bd
  rw [f_kind_v ⟨by omega, by omega⟩ (by omega)]
  exact h.2.1.1
theorem o_kd (h : o_I g m n) (hz : s_no n y) : f_st_kindOf m (o_up g y) = if y < 0 then 0 else n 432 y := by
  unfold o_up
  rcases hz with hz | hz
  · rw [if_pos (by omega), if_pos (by omega)]
    exact o_kd0 h
  · have k := h.1.kd (Or.inr hz)
    rw [s_up_y hz.1] at k
    rw [if_neg (by omega), if_neg (by omega), k]
    exact if_neg (by omega)
/-- the reference: a row of references -/
theorem r_target (h : o_I g m n) (hn : ∀ i j : Int, ¬ (i = 428 ∧ j = 80) → n1 i j = n i j) (hy : 0 ≤ y ∧ y < n 428 15) (h8 : n 432 y = 8) (H1 : o_ok n y → Q (n 433 y) n1) (H0 : ¬ o_ok n y → Q (-1) n1) : xc_m_target (d + 2) y n1 Q := by
  have bd := h.1.1
  unfold s_bd at bd
  obtain ⟨e1, e2, e3, e4, e5, e6⟩ := h.ref hy h8
  have c : ∀ i j, i ≠ 428 → n1 i j = n i j := fun i j q => hn i j (by omega)
  apply xr_m_target
  rw [c 433 y (by decide), hn 428 60 (by omega), c 451 _ (by decide)]
  refine ⟨by omega, ?_⟩
  by_cases q1 : n 433 y < n 428 60
  · rw [if_pos q1]
    refine ⟨by omega, ?_⟩
    by_cases q2 : n 451 (n 433 y) = 0
    · rw [if_pos q2]
      exact H0 (fun z => z.2.1 q2)
    · rw [if_neg q2]
      apply xr_m_generationOf
      rw [c 451 _ (by decide), c 453 _ (by decide), c 434 y (by decide)]
      refine ⟨by omega, ?_⟩
      by_cases q3 : n 451 (n 433 y) = 2
      · rw [if_pos q3]
        refine ⟨by omega, ?_⟩
        refine z_ite (fun z => H1 ⟨q1, q2, ?_⟩) (fun z => H0 (fun w => z ?_))
        · unfold o_gn; rw [if_pos q3]; exact z
        · have := w.2.2
          unfold o_gn at this
          rw [if_pos q3] at this
          exact this
      · rw [if_neg q3]
        refine ⟨by omega, by omega, ?_⟩
        refine z_ite (fun z => H1 ⟨q1, q2, ?_⟩) (fun z => H0 (fun w => z ?_))
        · unfold o_gn; rw [if_neg q3]; exact z
        · have := w.2.2
          unfold o_gn at this
          rw [if_neg q3] at this
          exact this
  · rw [if_neg q1]
    exact H0 (fun z => q1 z.1)
theorem r_orow (h : o_I g m n) : ∀ (f : Nat) (y l c : Int), c + ((f : Int) + 1) = 21 → 0 ≤ c → s_no n y → Q (o_rs n (f + 1) y l).1 (w_up n 428 80 (o_rs n (f + 1) y l).2) → xp_m_resolve_9 (d + 2) y c (w_up n 428 80 l) Q := by
  have bd := h.1.1
  unfold s_bd at bd
  have none : ∀ (c l : Int), Q (-1) (w_up n 428 80 0) → xp_m_resolve_42 (d + 2) c (-1) (w_up n 428 80 l) Q := fun c l hQ => by
    apply xr_m_resolve_42
    rw [if_pos (by decide), if_pos (by decide), w_up_up]
    apply xr_m_resolve_9
    rw [if_pos (by decide), if_pos (by decide), w_up_up]
    exact hQ
  intro f
  induction f with
  | zero =>
    intro y l c hc c0 hy hQ
    apply xr_m_resolve_9
    rcases hy with hy | hy
    · rw [o_rs_n (by omega)] at hQ
      rw [if_pos (by omega), if_pos (by omega), w_up_up, hy]
      exact hQ
    · rw [if_neg (by omega), w_up_ne (by decide)]
      refine ⟨by omega, ?_⟩
      by_cases h8 : n 432 y = 8
      · have hQ : Q (-1) (w_up n 428 80 0) := by
          by_cases ho : o_ok n y
          · rw [o_rs_y hy.1 h8 ho] at hQ; exact hQ
          · rw [o_rs_w hy.1 h8 ho] at hQ; exact hQ
        rw [if_pos h8, w_32_id (x := c + 1) (by omega) (by omega), if_pos (by omega)]
        exact none _ _ hQ
      · rw [o_rs_p hy.1 h8] at hQ
        rw [if_neg h8, if_neg (by omega)]
        exact hQ
  | succ f ih =>
    intro y l c hc c0 hy hQ
    apply xr_m_resolve_9
    rcases hy with hy | hy
    · rw [o_rs_n (by omega)] at hQ
      rw [if_pos (by omega), if_pos (by omega), w_up_up, hy]
      exact hQ
    · rw [if_neg (by omega), w_up_ne (by decide)]
      refine ⟨by omega, ?_⟩
      by_cases h8 : n 432 y = 8
      · rw [if_pos h8, w_32_id (x := c + 1) (by omega) (by omega), if_neg (by omega)]
        refine r_target (d := d) h (fun i j q => l_up q) hy h8 (fun ho => ?_) (fun ho => ?_)
        · rw [o_rs_y hy.1 h8 ho] at hQ
          have u := ho.us h hy h8
          obtain ⟨k1, k2, k3, k4, k5, k6, k7, k8⟩ := h.num u
          have u1 := u.1
          apply xr_m_resolve_42
          rw [if_neg (by omega), if_neg (by omega), w_up_up, w_up_ne (by decide)]
          exact ⟨by omega, ih _ _ _ (by omega) (by omega) (Or.inr ⟨k6.1, k6.2.1⟩) hQ⟩
        · rw [o_rs_w hy.1 h8 ho] at hQ
          exact none _ _ hQ
      · rw [o_rs_p hy.1 h8] at hQ
        rw [if_neg h8, if_neg (by omega)]
        exact hQ
theorem r_resolve (h : o_I g m n) (hy : s_no n y) (hQ : Q (o_re n y) (w_up n 428 80 (o_ln n y))) : xc_m_resolve (d + 3) y n Q := by
  apply xr_m_resolve
  exact r_orow (d := d) h 20 y 0 0 (by decide) (by decide) hy hQ
end OA
