/-! ===== entries, names, parts in the class ===== -/
section EC
variable {d : Nat} {g : s_g} {m m' n n' : w_M} {a b c s k x y i N : Int} {l L : List Int} {Q : Int → w_M → Prop}
theorem s_up_n {f : Int → Int} (h : y < 0) : s_up f y = -1 := if_pos h
theorem s_up_y {f : Int → Int} (h : 0 ≤ y) : s_up f y = f y := if_neg (by omega)
theorem f_kind_n (h : x < 0) : f_st_kindOf m x = -1 := by
  unfold f_st_kindOf
  rw [if_pos h]
theorem f_one_n (h : x < 0) : f_st_oneOf m x = 0 := by
  unfold f_st_oneOf
  rw [if_pos h]
theorem f_parts_n (h : x < 0) : f_st_parts m x = 0 := by
  unfold f_st_parts
  rw [if_pos h]
theorem f_parts_0 (h : 0 ≤ x ∧ x < m 359 6) (hC : m 359 6 ≤ 16564) (hk : ¬ (m 360 x = 6 ∨ m 360 x = 7)) : f_st_parts m x = 0 := by
  unfold f_st_parts
  rw [if_neg (by omega), if_pos (by omega), if_pos (by omega), if_neg (by omega), if_neg (by omega)]
/-- a node that is there, or none -/
def s_no (n : w_M) (y : Int) : Prop := y = -1 ∨ (0 ≤ y ∧ y < n 428 15)
theorem s_st.no (h : s_st g m n) (hy : s_no n y) : (y = -1 ∧ s_up g.1 y = -1) ∨ (0 ≤ y ∧ y < n 428 15 ∧ s_up g.1 y = g.1 y ∧ s_nd g m n y ∧ 41 ≤ g.1 y ∧ g.1 y < m 359 6 ∧ m 359 6 ≤ 16564) := by
  rcases hy with e | ⟨h0, h1⟩
  · exact Or.inl ⟨e, s_up_n (by omega)⟩
  · have nd := h.2.1 y h0 h1
    have bd := h.1
    unfold s_bd at bd
    exact Or.inr ⟨h0, h1, s_up_y h0, nd, nd.1, nd.2.1, bd.2.2.2.1⟩
/-- its kind, on both sides -/
def s_kd (n : w_M) (y : Int) : Int := if y < 0 then -1 else n 432 y
theorem s_st.kd (h : s_st g m n) (hy : s_no n y) : f_st_kindOf m (s_up g.1 y) = s_kd n y := by
  unfold s_kd
  rcases h.no hy with ⟨e1, e2⟩ | ⟨a1, a2, a3, a4, a5, a6, a7⟩
  · rw [e2, f_kind_n (by omega), if_pos (by omega)]
  · rw [a3, f_kind_v ⟨by omega, a6⟩ a7, if_neg (by omega)]
    exact a4.2.2.1
theorem s_st.one (h : s_st g m n) (hy : s_no n y) (hk : s_kd n y = 1 ∨ s_kd n y = 2 ∨ s_kd n y = 3 ∨ s_kd n y = 8) : f_st_oneOf m (s_up g.1 y) = n 433 y := by
  unfold s_kd at hk
  rcases h.no hy with ⟨e1, e2⟩ | ⟨a1, a2, a3, a4, a5, a6, a7⟩
  · rw [if_pos (by omega)] at hk
    omega
  · rw [if_neg (by omega)] at hk
    rw [a3, f_one_v ⟨by omega, a6⟩ a7]
    exact a4.2.2.2.2.2.1 (by omega)
theorem s_st.prt (h : s_st g m n) (hy : s_no n y) (hk : s_kd n y = 6 ∨ s_kd n y = 7) : f_st_parts m (s_up g.1 y) = n 435 y ∧ 0 ≤ y ∧ y < n 428 15 ∧ n 435 y = (g.2.1 y).length := by
  unfold s_kd at hk
  rcases h.no hy with ⟨e1, e2⟩ | ⟨a1, a2, a3, a4, a5, a6, a7⟩
  · rw [if_pos (by omega)] at hk
    omega
  · rw [if_neg (by omega)] at hk
    have e := a4.2.2.1
    rw [a3, f_parts_v ⟨by omega, a6⟩ a7 (by rw [e]; exact hk)]
    exact ⟨(a4.2.2.2.2.2.2.2.2.1 hk).1, a1, a2, (h.2.2.2.2 y a1 a2 hk).1.2.1⟩
theorem sp_st_entry_27 (h : s_st g m n) (hw : s_kw m) (hk : 1 ≤ k ∧ k ≤ 40) : ∀ (L : List Int) (y x i : Int), s_ch n (n 428 15) y L → s_l2 g.1 (n 428 15) x y → i = L.length → i ≤ 2147483647 → (∀ y ∈ L, 0 ≤ m 364 (g.1 y)) → Q (s_up g.1 (s_fd n (s_wd k) L)) m → xp_st_entry_27 (d + 2) k x i m Q := by
  intro L
  induction L with
  | nil =>
    intro y x i _ _ hi _ _ hQ
    have hi : i = 0 := hi
    apply xr_st_entry_27
    rw [if_neg (by omega)]
    exact hQ
  | cons z L ih =>
    intro y x i hc hl hi hb hn hQ
    obtain ⟨e, a1, a2, a3⟩ := hc
    subst e
    rcases hl with w | ⟨w1, w2, w3⟩
    · omega
    · have nd := h.2.1 y a1 a2
      have bd := h.1
      have bd' := bd
      unfold s_bd at bd'
      have n0 := hn y (List.mem_cons_self ..)
      have kt := nd.keq bd n0 hw hk
      have wt := hw.tn bd hk
      have hi' : i = L.length + 1 := hi
      apply xr_st_entry_27
      rw [if_pos (by omega), w3, if_neg (by have := nd.1; omega)]
      refine sp_st_keyOf ?_
      rw [f_key_v ⟨by have := nd.1; omega, nd.2.1⟩ (by omega)]
      refine sp_same kt.1 wt (by omega) (fun q => ?_) (fun q => ?_)
      · rw [if_neg (by decide)]
        rw [s_fd_y (kt.2.mp q), s_up_y a1] at hQ
        exact hQ
      · rw [if_pos rfl]
        refine sp_st_nextOf ?_
        rw [f_next_v ⟨by have := nd.1; omega, nd.2.1⟩ (by omega), w_32_id (by omega) (by omega)]
        rw [s_fd_n (fun z => q (kt.2.mpr z))] at hQ
        exact ih _ _ _ a3 nd.2.2.2.2.2.2.2.2.2.1 (by omega) (by omega) (fun y hy => hn y (List.mem_cons_of_mem _ hy)) hQ
/-- an entry of a dict -/
theorem sp_st_entry (h : s_st g m n) (hw : s_kw m) (hk : 1 ≤ k ∧ k ≤ 40) (hb : 0 ≤ b ∧ b < n 428 15) (h7 : n 432 b = 7) (hQ : Q (s_up g.1 (s_fd n (s_wd k) (g.2.1 b))) m) : xc_st_entry (d + 3) (g.1 b) k m Q := by
  have nd := h.2.1 b hb.1 hb.2
  have bd := h.1
  unfold s_bd at bd
  have no : s_no n b := Or.inr hb
  have ek : m 360 (g.1 b) = 7 := nd.2.2.1.trans h7
  obtain ⟨c1, c2, c3⟩ := h.di hb h7
  have hl := (nd.2.2.2.2.2.2.2.2.1 (Or.inr h7))
  refine w_C.nm (fun hn => ?_)
  have hi : -2147483648 ≤ m 362 (g.1 b) ∧ m 362 (g.1 b) < 2147483648 := w_ar_r hn (a := 362) (by decide) s_362 (g.1 b)
  have hlen : n 435 b ≤ 2147483647 := by
    rw [← hl.1]
    omega
  apply xr_st_entry
  refine sp_st_kindOf ?_
  rw [f_kind_v ⟨by have := nd.1; omega, nd.2.1⟩ (by omega), if_pos ek]
  refine sp_st_oneOf ?_
  refine sp_st_parts ?_
  rw [f_one_v ⟨by have := nd.1; omega, nd.2.1⟩ (by omega), f_parts_v ⟨by have := nd.1; omega, nd.2.1⟩ (by omega) (Or.inr ek), hl.1]
  exact sp_st_entry_27 h hw hk _ _ _ _ c1 hl.2.l2 c2 hlen (fun y hy => (c3 y hy).2.2.1) hQ
/-- of what is no dict -/
theorem sp_st_entry_n (hk : f_st_kindOf m x ≠ 7) (hQ : Q (-1) m) : xc_st_entry (d + 3) x k m Q := by
  apply xr_st_entry
  refine sp_st_kindOf ?_
  rw [if_neg hk]
  refine sp_st_parts ?_
  apply xr_st_entry_27
  split
  · rw [if_pos (by decide)]; exact hQ
  · exact hQ
/-- a name that is known -/
theorem sp_st_isName (h : s_st g m n) (hw : s_kw m) (hk : 1 ≤ k ∧ k ≤ 40) (hy : s_no n y) (h1 : s_nk n y (s_wd k) → Q 1 m) (h0 : ¬ s_nk n y (s_wd k) → Q 0 m) : xc_st_isName (d + 3) (s_up g.1 y) k m Q := by
  have bd := h.1
  have bd' := bd
  unfold s_bd at bd'
  apply xr_st_isName
  refine sp_st_kindOf ?_
  rw [h.kd hy]
  rcases h.no hy with ⟨e1, e2⟩ | ⟨a1, a2, a3, a4, a5, a6, a7⟩
  · have ek : s_kd n y = -1 := if_pos (by omega)
    rw [ek, if_neg (by decide)]
    exact h0 (fun z => by have := z.1; omega)
  · have ek : s_kd n y = n 432 y := if_neg (by omega)
    rw [ek]
    by_cases q : n 432 y = 4
    · rw [if_pos q, a3]
      have t := a4.neq bd (Or.inl q) hw hk
      refine sp_same t.1 (hw.tn bd hk) (by omega) (fun z => ?_) (fun z => ?_)
      · rw [if_neg (by decide)]
        exact h1 ⟨a1, q, t.2.mp z⟩
      · rw [if_pos rfl]
        exact h0 (fun w => z (t.2.mpr w.2.2))
    · rw [if_neg q]
      exact h0 (fun w => q w.2.1)
theorem sp_st_part_24 (h : s_st g m n) : ∀ (j : Nat) (L : List Int) (y x i k : Int), s_ch n (n 428 15) y L → s_l2 g.1 (n 428 15) x y → 0 ≤ k → k + j = i → i ≤ 100000 → j < L.length → Q (s_up g.1 (L.getD j (-1))) m → xp_st_part_24 (d + 1) i x k m Q := by
  intro j
  induction j with
  | zero =>
    intro L y x i k hc hl k0 hi hb hj hQ
    have e : s_up g.1 (L.getD 0 (-1)) = x := by
      cases L with
      | nil => exact absurd hj (by decide)
      | cons z L =>
        obtain ⟨e, a1, a2, a3⟩ := hc
        subst e
        rcases hl with w | ⟨w1, w2, w3⟩
        · omega
        · rw [w3]
          exact s_up_y a1
    rw [e] at hQ
    apply xr_st_part_24
    rw [if_neg (by omega)]
    exact hQ
  | succ j ih =>
    intro L y x i k hc hl k0 hi hb hj hQ
    apply xr_st_part_24
    rw [if_pos (by omega)]
    cases L with
    | nil => exact absurd hj (Nat.not_lt_zero _)
    | cons z L =>
      obtain ⟨e, a1, a2, a3⟩ := hc
      subst e
      rcases hl with w | ⟨w1, w2, w3⟩
      · omega
      · have nd := h.2.1 y a1 a2
        have bd := h.1
        unfold s_bd at bd
        rw [w3, if_neg (by have := nd.1; omega)]
        refine sp_st_nextOf ?_
        rw [f_next_v ⟨by have := nd.1; omega, nd.2.1⟩ (by omega), w_32_id (by omega) (by omega)]
        exact ih L _ _ i (k + 1) a3 nd.2.2.2.2.2.2.2.2.2.1 (by omega) (by omega) hb (by rw [List.length_cons] at hj; omega) hQ
/-- the i-th part -/
theorem sp_st_part (h : s_st g m n) (hy : s_no n y) (hk : s_kd n y = 6 ∨ s_kd n y = 7) (hi : i ≤ 100000) (hQ : Q (s_up g.1 (if i < 0 then -1 else (g.2.1 y).getD i.toNat (-1))) m) : xc_st_part (d + 2) (s_up g.1 y) i m Q := by
  obtain ⟨p1, p2, p3, p4⟩ := h.prt hy hk
  have ek := h.kd hy
  have up : s_up g.1 y = g.1 y := s_up_y p2
  apply xr_st_part
  by_cases q : i < 0
  · rw [if_pos q] at hQ ⊢
    exact hQ
  · rw [if_neg q] at hQ ⊢
    refine sp_st_parts ?_
    rw [p1]
    by_cases q2 : i < n 435 y
    · rw [if_pos q2]
      refine sp_st_firstPart ?_
      have nd := h.2.1 y p2 p3
      have bd := h.1
      unfold s_bd at bd
      have k7 : n 432 y = 6 ∨ n 432 y = 7 := by
        unfold s_kd at hk
        rw [if_neg (by omega)] at hk
        exact hk
      have e7 := nd.2.2.1
      rw [up, f_first_v ⟨by have := nd.1; omega, nd.2.1⟩ (by omega) (by rw [e7]; exact k7)]
      exact sp_st_part_24 h i.toNat _ _ _ i 0 (h.2.2.2.2 y p2 p3 k7).1.1 (nd.2.2.2.2.2.2.2.2.1 k7).2.l2 (by decide) (by omega) hi (by omega) hQ
    · rw [if_neg q2]
      rw [List.getD_eq_getElem?_getD, List.getElem?_eq_none (by omega)] at hQ
      exact hQ
end EC
