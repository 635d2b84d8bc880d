/-! ===== the loader: a stream that waits, both sides ===== -/
section SF2
variable {d c : Nat} {g g' : s_g} {m m' m1 m2 n n' n1 n2 : w_M} {Q : Int → w_M → Prop} {W : Int → Int} {L p k v x y P r b len w C i l2 l5 l6 : Int}
theorem c_138_0 (h : xp_x_load_229 d l2 m Q) : xp_x_load_138 d l2 0 i m Q := by
  apply xr_x_load_138
  refine z_ite (fun _ => ?_) (fun _ => h)
  rw [if_pos rfl]
  exact h
theorem c_197_bad (h6 : m 376 6 ≠ 0) (h : xp_x_load_229 d l2 m Q) : xp_x_load_197 d l2 i l5 l6 m Q := by
  apply xr_x_load_197
  rw [if_neg h6]
  exact c_138_0 h
theorem c_197_ok (h6 : m 376 6 = 0) (hl : 0 < l6 ∨ l5 ≠ 0) (hi : 0 ≤ i ∧ i < 1000) (h : xp_x_load_138 d l2 1 (i + 1) m Q) : xp_x_load_197 d l2 i l5 l6 m Q := by
  apply xr_x_load_197
  rw [if_pos h6, w_32_id (x := i + 1) (by omega) (by omega)]
  refine z_ite (fun _ => h) (fun q => ?_)
  rw [if_neg (hl.resolve_left q)]
  exact h
/-- the class goes on with the stream that waits last -/
theorem c_138_w (hi : 0 ≤ i ∧ i < 1000) (h9 : 0 < m 394 9) (h : xc_lo_readBody (d + 1) m (fun r4 m4 => if 0 < r4 then (xc_lo_readObject (d + 1) r4 m4 (fun _ m5 => xp_x_load_197 (d + 1) l2 i 1 r4 m5 Q)) else (xp_x_load_197 (d + 1) l2 i 1 r4 m4 Q))) : xp_x_load_138 (d + 1) l2 1 i m Q := by
  apply xr_x_load_138
  rw [if_pos hi.2, if_neg (by decide)]
  apply xr_lo_isWaiting
  rw [if_pos h9, if_neg (by decide)]
  exact h
theorem l_fd.fr {l : List Int} (hst : s_st g m n) (hex : s_ex g g' (n 428 15)) (hmf : s_mf n n') (hb : 0 ≤ b ∧ b < n 428 15) (h7 : n 432 b = 7) : s_fd n' l (g'.2.1 b) = s_fd n l (g.2.1 b) := by
  rw [(hex b hb.1 hb.2).2.1]
  have di := hst.di hb h7
  have fd : ∀ (L : List Int), (∀ y ∈ L, 0 ≤ y ∧ y < n 428 15 ∧ 0 ≤ m 364 (g.1 y)) → s_fd n' l L = s_fd n l L := by
    intro L
    induction L with
    | nil => intro _; rfl
    | cons y L ih =>
      intro hm
      have y0 := hm y (List.mem_cons_self ..)
      have nd := hst.2.1 y y0.1 y0.2.1
      have e8 := hmf.2.2.1 438 y (by decide) (by decide) y0.1 y0.2.1
      have e9 := hmf.2.2.1 439 y (by decide) (by decide) y0.1 y0.2.1
      have ky := nd.2.2.2.2.2.2.2.2.2.2
      have e : s_is n' (n' 438 y) (n' 439 y) l ↔ s_is n (n 438 y) (n 439 y) l := by
        rw [e8, e9]
        unfold s_is
        have cell : ∀ i : Nat, n 439 y = l.length → i < l.length → n' 440 (n 438 y + i) = n 440 (n 438 y + i) := by
          intro i h1 h2
          rcases ky with w | ⟨_, _, _, _, t1, t2, t3, t4, t5, t6⟩
          · omega
          · exact hmf.2.2.2 _ (by omega)
        constructor
        · intro ⟨h1, h2⟩
          exact ⟨h1, fun i hi => by rw [← cell i h1 hi]; exact h2 i hi⟩
        · intro ⟨h1, h2⟩
          exact ⟨h1, fun i hi => by rw [cell i h1 hi]; exact h2 i hi⟩
      by_cases z : s_is n (n 438 y) (n 439 y) l
      · rw [s_fd_y z, s_fd_y (e.mpr z)]
      · rw [s_fd_n z, s_fd_n (fun w => z (e.mp w)), ih (fun u hu => hm u (List.mem_cons_of_mem _ hu))]
  exact fd (g.2.1 b) (fun y hy => by have := di.2.2 y hy; exact ⟨this.1, this.2.1, this.2.2.1⟩)
/-- the stack's top is this stream -/
def l_top (g : s_g) (m n : w_M) (L w k b r : Int) : Prop := (0 ≤ w ∧ w < 200 ∧ m 394 9 = w + 1) ∧ (m 396 w = k ∧ m 397 w = b ∧ m 398 w = g.1 r) ∧ n 455 k = r ∧ (1 ≤ k ∧ k < n 428 60) ∧ n 451 k = 1 ∧ n 456 k = 1 ∧ n 432 r = 7 ∧ (0 ≤ b ∧ b ≤ L)
/-- what comes of it: a fault -/
def l_FF (c : Nat) (l2 : Int) (m n n' m' : w_M) (CR : (Int → w_M → Prop) → Prop) : Prop := l_n n n' ∧ n' 428 27 ≠ 0 ∧ l_c m m' ∧ w_nm (w_G0 sC) m' ∧ m' 376 6 ≠ 0 ∧ ∀ X, xp_x_load_229 (c + 60) l2 m' X → CR X
/-- .. or number k has been read whole; j: as many rounds may have gone -/
def l_GG (c : Nat) (l2 : Int) (W : Int → Int) (L C k w j : Int) (g g' : s_g) (m n n' m' : w_M) (CR : (Int → w_M → Prop) → Prop) : Prop :=
  l_n n n' ∧ n' 428 27 = 0 ∧ l_c m m' ∧ w_nm (w_G0 sC) m' ∧ l_I g' m' n' W L C ∧ s_cf m m' ∧ s_mf n n' ∧ s_ex g g' (n 428 15) ∧ m' 394 9 = w ∧ (∀ i j, 396 ≤ i → i ≤ 398 → 0 ≤ j → j < w → m' i j = m i j) ∧
  n' 456 k = 2 ∧ (∀ x, 0 ≤ x → x < 200 → x ≠ k → n 456 x ≠ 0 → n' 456 x = n 456 x ∧ n' 455 x = n 455 x) ∧ (n 456 k ≠ 0 → n' 455 k = n 455 k) ∧ l_un n' ≤ l_un n ∧ (∀ x, n 451 x ≠ 1 → n' 456 x = n 456 x) ∧
  ∃ i', 0 ≤ i' ∧ i' + 2 * l_un n' ≤ j + 2 * l_un n ∧ ∀ X, xp_x_load_138 (c + 60) l2 1 i' m' X → CR X
/-- the length is known -/
theorem s_str2 (hI : l_I g m n W L C) (hm : w_nm (w_G0 sC) m) (ht : l_top g m n L w k b r) (hv : v_m n W L) (h18 : n 428 18 = 430 ∨ 440 < n 428 18) (hi : 0 ≤ i ∧ i < 999)
    (hx : (f_st_kindOf m x = 2 ∧ f_st_oneOf m x = len) ∨ (f_st_kindOf m x ≠ 2 ∧ len = -1)) (hlen : -2147483648 ≤ len ∧ len < 2147483648) (hop : ∀ R : Int → w_M → Prop, xp_lo_readBody_141 (c + 59) w k x m R → xc_lo_readBody (c + 60) m R)
    (HF : ∀ n' m', l_FF c l2 m n n' m' (fun X => xp_x_load_138 (c + 60) l2 1 i m X) → Q 0 n') (HG : ∀ n' m', l_GG c l2 W L C k w (i + 1) g g m n n' m' (fun X => xp_x_load_138 (c + 60) l2 1 i m X) → Q 0 n') :
    xp_m_rawStream_269 (d + 12) P b len n (l_raw (d + 13) k P r Q) := by
  obtain ⟨⟨t1, t2, t3⟩, t4, t5, t6, t7, t8, t9, t10⟩ := ht
  refine s_body (c := c) hI hm ⟨t1, t3⟩ t2 t4 t5 t6 t7 t8 t9 t10 hv h18 hx hlen (fun n' m' a1 a2 a3 a4 a5 a6 => ?_) (fun n' m' a1 a2 a3 a4 a5 a6 a7 a8 a9 b1 b2 b3 => ?_)
  · refine HF n' m' ⟨a1, a2, a3, a4, a5, fun X hX => ?_⟩
    refine c_138_w (d := c + 59) ⟨hi.1, by omega⟩ (by omega) ?_
    refine hop _ ?_
    refine a6 _ ?_
    rw [if_neg (by decide)]
    exact c_197_bad a5 hX
  · have un : l_un n' ≤ l_un n := by
      have : l_un n' = l_un n := l_uc_eq (fun y => by
        by_cases q : y = k
        · rw [q, a9, t8]; exact ⟨fun z => absurd z (by decide), fun z => absurd z (by decide)⟩
        · rw [b1 y q]) 199
      omega
    refine HG n' m' ⟨a3, a1.2.2.2.2.2.1, a4, a2, a1, a5, a6, s_ex.rf, a7, fun i j q1 q2 _ _ => a8 i j q1 q2, a9, fun y _ _ q _ => ⟨b1 y q, b2 y⟩, fun _ => b2 k, un, fun y y1 => b1 y (fun z => y1 (by rw [z]; exact t7)), i + 1, by omega, by omega, fun X hX => ?_⟩
    refine c_138_w (d := c + 59) ⟨hi.1, by omega⟩ (by omega) ?_
    refine hop _ ?_
    refine b3 _ ?_
    rw [if_neg (by decide)]
    exact c_197_ok a1.2.2.2.1.2 (Or.inr (by decide)) ⟨hi.1, by omega⟩ hX
end SF2
