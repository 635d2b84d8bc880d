/-! ===== decoded bytes are at most 8000; a filter, both sides ===== -/
section ZL
variable {d : Nat} {m m' m2 n n' n2 : w_M} {Q : Int → w_M → Prop} {I : Int → Int} {A base N O M x b v f c : Int} {k : Nat} {o : List Int} {S1 S2 : Int → Int × Int × Int}
theorem y_cpy_l (b : Int) : ∀ (k : Nat) (o : List Int), (o.length : Int) ≤ 8000 → ((y_cpy b k o).2.length : Int) ≤ 8000 := by
  intro k
  induction k with
  | zero => intro o h; exact h
  | succ k ih =>
    intro o h
    by_cases q : y_fl o
    · rw [y_cpy_p q]; exact h
    · rw [y_cpy_q q]
      have q' : ¬ (8000 : Int) ≤ o.length := q
      exact ih _ (by rw [t_len]; omega)
theorem y_row_l (h : (o.length : Int) ≤ 8000) : ((y_row I M S2 v x o).2.2.length : Int) ≤ 8000 := by
  unfold y_row
  split
  · exact h
  · split
    · exact h
    · split
      · exact h
      · split
        · exact h
        · split
          · exact h
          · split
            · exact h
            · exact y_cpy_l _ _ _ h
theorem y_cod_l : ∀ (k : Nat) (x : Int) (o : List Int), (o.length : Int) ≤ 8000 → ((y_cod I M S1 S2 k x o).2.2.length : Int) ≤ 8000 := by
  intro k
  induction k with
  | zero => intro x o h; exact h
  | succ k ih =>
    intro x o h
    unfold y_cod
    split
    · exact h
    · split
      · exact h
      · split
        · split
          · exact h
          · rename_i q
            have q' : ¬ (8000 : Int) ≤ o.length := q
            exact ih _ _ (by rw [t_len]; omega)
        · split
          · exact h
          · split
            · exact h
            · exact ih _ _ (y_row_l h)
theorem y_sto_l : ∀ (k : Nat) (x : Int) (o : List Int), (o.length : Int) ≤ 8000 → ((y_sto I M k x o).2.2.length : Int) ≤ 8000 := by
  intro k
  induction k with
  | zero => intro x o h; exact h
  | succ k ih =>
    intro x o h
    unfold y_sto
    split
    · exact h
    · split
      · exact h
      · rename_i q
        have q' : ¬ (8000 : Int) ≤ o.length := q
        exact ih _ _ (by rw [t_len]; omega)
theorem y_bk_l {w : Int} (h : (o.length : Int) ≤ 8000) : ((y_bk I M w x o).2.2.length : Int) ≤ 8000 := by
  unfold y_bk
  split
  · unfold y_str
    split
    · exact h
    · split
      · exact h
      · exact y_sto_l _ _ _ h
  · split
    · exact y_cod_l _ _ _ h
    · split
      · split
        · exact y_cod_l _ _ _ h
        · exact h
      · exact h
theorem y_blk_l : ∀ (k : Nat) (x : Int) (o : List Int), (o.length : Int) ≤ 8000 → ((y_blk I M k x o).2.2.length : Int) ≤ 8000 := by
  intro k
  induction k with
  | zero => intro x o h; exact h
  | succ k ih =>
    intro x o h
    show ((if M < x + 3 then (1, x, o) else if (y_bk I M (y_V I (x + 1) 2) (x + 3) o).1 = 1 then (1, x, o) else if y_V I x 1 = 1 then y_bk I M (y_V I (x + 1) 2) (x + 3) o else y_blk I M k (y_bk I M (y_V I (x + 1) 2) (x + 3) o).2.1 (y_bk I M (y_V I (x + 1) 2) (x + 3) o).2.2 : Int × Int × List Int).2.2.length : Int) ≤ 8000
    split
    · exact h
    · split
      · exact h
      · split
        · exact y_bk_l h
        · exact ih _ _ (y_bk_l h)
theorem y_zl_l (h : y_zl I N o) : (o.length : Int) ≤ 8000 := by
  obtain ⟨_, x, e, _⟩ := h
  have := y_blk_l (I := I) (M := 8 * N) (8 * N + 1).toNat 16 [] (by decide)
  rw [e] at this
  exact this
/-- what these N bytes inflate to -/
noncomputable def z_zo (I : Int → Int) (N : Int) : Option (List Int) := by
  classical exact (if h : ∃ o, y_zl I N o then some h.choose else none)
theorem z_zo_s (h : y_zl I N o) : z_zo I N = some o := by
  have h' : ∃ o, y_zl I N o := ⟨o, h⟩
  have e : z_zo I N = some h'.choose := dif_pos h'
  rw [e, y_zl_one h'.choose_spec h]
theorem z_zo_n (h : ¬ ∃ o, y_zl I N o) : z_zo I N = none := dif_neg h
/-- the bytes of a list, as what is read -/
def z_I (o : List Int) : Int → Int := fun i => o.getD i.toNat 0 % 256
/-- one filter: inflate, or hexes; then the predictor -/
noncomputable def z_st (f c : Int) (I : Int → Int) (N : Int) : Option (List Int) :=
  (if f = 0 then z_hx I N.toNat 0 (-1) [] else z_zo I N).bind (fun o => if f ≠ 0 ∧ 0 < c then z_pr (z_I o) o.length c else some o)
noncomputable def z_run : List (Int × Int) → (Int → Int) → Int → Option (List Int)
  | [], I, N => some ((List.range N.toNat).map (fun i : Nat => w_8 (I (i : Int))))
  | (f, c) :: r, I, N => (z_st f c I N).bind (fun o => z_run r (z_I o) o.length)
/-- the filters' own cells alone have changed -/
def z_cf (m m' : w_M) : Prop := ∀ i j : Int, ¬ (i = 378 ∧ 6 ≤ j) → ¬ (i = 379 ∧ 6 ≤ j) → ¬ (380 ≤ i ∧ i ≤ 385) → ¬ (387 ≤ i ∧ i ≤ 390) → m' i j = m i j
/-- the reference: what decoding uses alone -/
def z_mf (n n' : w_M) : Prop := ∀ i j : Int, ¬ (i = 428 ∧ 37 ≤ j ∧ j ≤ 40) → ¬ (442 ≤ i ∧ i ≤ 450) → n' i j = n i j
theorem z_cf.rf : z_cf m m := fun _ _ _ _ _ _ => rfl
theorem z_cf.tr (h : z_cf m m') (h2 : z_cf m' m2) : z_cf m m2 := fun a b q1 q2 q3 q4 => (h2 a b q1 q2 q3 q4).trans (h a b q1 q2 q3 q4)
theorem z_mf.rf : z_mf n n := fun _ _ _ _ => rfl
theorem z_mf.tr (h : z_mf n n') (h2 : z_mf n' n2) : z_mf n n2 := fun a b q1 q2 => (h2 a b q1 q2).trans (h a b q1 q2)
theorem z_fr.cf (h : z_fr O m m') (hO : O = 387 ∨ O = 388) : z_cf m m' := fun a b q1 q2 q3 q4 => h a b (by omega)
theorem y_rn.zcf (h : y_rn O m m') (hO : O = 387 ∨ O = 388) : z_cf m m' := fun a b q1 q2 q3 q4 => h a b q2 q3 (by omega)
theorem y_ofr.zmf (h : y_ofr n n') : z_mf n n' := fun a b q1 q2 => h a b (by omega) (by omega)
theorem y_mf.zmf (h : y_mf n n') : z_mf n n' := fun a b q1 q2 => h a b (by omega) (by omega)
theorem z_cf.cf (h : z_cf m m') : s_cf m m' := by
  have e6 := h 359 6 (by omega) (by omega) (by omega) (by omega)
  have e7 := h 359 7 (by omega) (by omega) (by omega) (by omega)
  exact ⟨by omega, by omega, fun a b q1 q2 _ _ => h a b (by omega) (by omega) (by omega) (by omega), fun b _ => h 365 b (by omega) (by omega) (by omega) (by omega)⟩
theorem z_cf.st {g : s_g} (h : z_cf m m') (hs : s_st g m n) : s_st g m' n := by
  refine hs.fr h.cf s_mf.rf rfl ?_
  have := hs.1
  unfold s_bd at this ⊢
  rw [h 359 6 (by omega) (by omega) (by omega) (by omega), h 359 7 (by omega) (by omega) (by omega) (by omega)]
  exact this
theorem z_cf.kw {g : s_g} (h : z_cf m m') (hs : s_st g m n) (hw : s_kw m) : s_kw m' := hw.fr h.cf hs.1
theorem z_mf.mf (h : z_mf n n') : s_mf n n' := by
  have e1 := h 428 15 (by omega) (by omega)
  have e2 := h 428 17 (by omega) (by omega)
  exact ⟨by omega, by omega, fun a b q1 q2 _ _ => h a b (by omega) (by omega), fun b _ => h 440 b (by omega) (by omega)⟩
theorem z_mf.st {g : s_g} (h : z_mf n n') (hs : s_st g m n) : s_st g m n' := by
  refine hs.fr s_cf.rf h.mf (h 428 15 (by omega) (by omega)) ?_
  have := hs.1
  unfold s_bd at this ⊢
  rw [h 428 15 (by omega) (by omega), h 428 17 (by omega) (by omega)]
  exact this
/-- the bytes that were written are what is read next -/
theorem z_in_o (hO : O = 387 ∨ O = 388) (h : z_at m O o) (hl : (o.length : Int) ≤ 8000) : z_in m O 0 o.length (z_I o) := by
  obtain ⟨o1, o2, o3, o4, o5, o6, o7⟩ := y_oO hO
  refine ⟨o5, o1, o2, by decide, by omega, hl, by omega, by omega, fun i q1 q2 => ?_⟩
  rw [Int.zero_add, z_get h q1 q2]
  rfl
theorem z_rin_o (h : z_at n 442 o) (h37 : n 428 37 = o.length) (hl : (o.length : Int) ≤ 8000) : y_rin n o.length (z_I o) := by
  refine ⟨h37, by omega, by omega, fun i q1 q2 => ?_⟩
  rw [z_get h q1 q2]
  rfl
theorem z_hx_len : ∀ (k : Nat) (p h : Int) (o o' : List Int), 0 ≤ p → p + k ≤ 8000 → (o.length : Int) ≤ p → z_hx I k p h o = some o' → (o'.length : Int) ≤ 8000 := by
  intro k
  induction k with
  | zero => intro p h o o' _ _ _ e; cases e
  | succ k ih =>
    intro p h o o' p0 hp hl e
    by_cases q : b_w (I p)
    · rw [z_hx_w q] at e
      exact ih _ _ _ _ (by omega) (by omega) (by omega) e
    · by_cases q2 : I p = 62
      · by_cases q3 : ∀ i, p + 1 ≤ i → i < p + 1 + k → b_w (I i)
        · rw [z_hx_e q q2 q3] at e
          have e := Option.some.inj e
          rw [← e]
          split
          · omega
          · rw [t_len]; omega
        · rw [z_hx_en q q2 q3] at e
          cases e
      · by_cases q3 : h_x (I p) < 0
        · rw [z_hx_n q q2 q3] at e
          cases e
        · by_cases q4 : h < 0
          · rw [z_hx_1 q q2 q3 q4] at e
            exact ih _ _ _ _ (by omega) (by omega) (by omega) e
          · rw [z_hx_2 q q2 q3 q4] at e
            exact ih _ _ _ _ (by omega) (by omega) (by rw [t_len]; omega) e
end ZL
