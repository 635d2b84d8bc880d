/-! ===== the accessors: letter, down, objects, count, pages ===== -/
/-- what count wants -/
def d_cnt (m n : w_M) : Prop := m 366 13 = n 428 81 ∧ m 366 14 = n 428 82 ∧ (m 391 6 = n 428 61 ∧ 1 ≤ n 428 61) ∧ m 391 10 = n 428 63 ∧ (m 392 0 = n 463 0 ∧ -2147483648 ≤ n 463 0 ∧ n 463 0 < 2147483648) ∧
  ∀ k, 0 ≤ k → k < 200 → (m 373 k = 0 ↔ n 460 k = 0) ∧ (n 460 k ≠ 0 → o_u n k)
section AE
variable {d e : Nat} {g g' : s_g} {m m' m0 m1 m2 n n' n0 n1 n2 : w_M} {Q R : Int → w_M → Prop} {k x y z i j a b v r w l : Int}
/- letters -/
theorem a_tx (hk : 0 ≤ a ∧ a < m 359 6) (hC : m 359 6 ≤ 16564) (h7 : m 359 7 ≤ 108612) (k45 : m 360 a = 4 ∨ m 360 a = 5) (h2 : m 362 a = x) (ht : s_tx m n (m 361 a) y x) : f_st_letterOf m a i = if i < 0 then -1 else if i < x then n 440 (y + i) % 256 else -1 := by
  have el : f_st_letters m a = x := by
    unfold f_st_letters
    rw [if_neg (by omega), if_pos hk.2, if_pos (by omega)]
    rcases k45 with z | z
    · rw [if_pos z, h2]
    · rw [if_neg (by omega), if_pos z, h2]
  obtain ⟨t1, t2, t3, t4, t5, t6⟩ := ht
  unfold f_st_letterOf
  rw [el, f_one_v hk hC]
  by_cases q0 : i < 0
  · rw [if_pos q0, if_pos q0]
  · rw [if_neg q0, if_neg q0]
    by_cases q1 : i < x
    · rw [if_pos q1, if_pos q1, w_32_id (by omega) (by omega), if_neg (by omega), if_pos (by omega), (t6 i (by omega) q1).1]
    · rw [if_neg q1, if_neg q1]
theorem a_tx0 (el : f_st_letters m a = -1) : f_st_letterOf m a i = -1 := by
  unfold f_st_letterOf
  rw [el]
  by_cases q0 : i < 0
  · rw [if_pos q0]
  · rw [if_neg q0, if_neg (by omega)]
theorem r_l65 (l0 : l = 0) (hv : 0 ≤ v ∧ v < 40000) (ht : 0 ≤ y ∧ y + n 435 v ≤ 150000) (hQ : Q (if i < 0 then -1 else if i < n 435 v then n 440 (y + i) % 256 else -1) n) : xp_m_letter_65 d i l v 1 y n Q := by
  apply xr_m_letter_65
  rw [if_pos l0, if_neg (show ¬ (1 : Int) = 0 by decide)]
  refine ⟨hv, ?_⟩
  by_cases q0 : i < 0
  · rw [if_pos q0] at hQ ⊢
    exact hQ
  · rw [if_neg q0] at hQ ⊢
    by_cases q1 : i < n 435 v
    · rw [if_pos q1] at hQ ⊢
      rw [w_32_id (by omega) (by omega)]
      exact ⟨by omega, hQ⟩
    · rw [if_neg q1] at hQ ⊢
      exact hQ
theorem r_l65n (l0 : l = 0) (hQ : Q (-1) n) : xp_m_letter_65 d i l v 0 y n Q := by
  apply xr_m_letter_65
  rw [if_pos l0, if_pos rfl]
  by_cases q0 : i < 0
  · rw [if_pos q0]; exact hQ
  · rw [if_neg q0, if_neg q0]; exact hQ
theorem r_l65k (l0 : ¬ l = 0) (h0 : ¬ n 428 88 = 0) (hv : 0 ≤ v ∧ v < 40000) (ht : n 439 v = 0 ∨ (0 ≤ y ∧ y + n 439 v ≤ 150000)) (hQ : Q (if i < 0 then -1 else if i < n 439 v then n 440 (y + i) % 256 else -1) n) : xp_m_letter_65 d i l v b y n Q := by
  apply xr_m_letter_65
  rw [if_neg l0, if_neg h0]
  refine ⟨hv, ?_⟩
  by_cases q0 : i < 0
  · rw [if_pos q0] at hQ ⊢
    exact hQ
  · rw [if_neg q0] at hQ ⊢
    by_cases q1 : i < n 439 v
    · rw [if_pos q1] at hQ ⊢
      rw [w_32_id (by omega) (by omega)]
      exact ⟨by omega, hQ⟩
    · rw [if_neg q1] at hQ ⊢
      exact hQ
theorem r_l65k0 (l0 : ¬ l = 0) (h0 : n 428 88 = 0) (hQ : Q (-1) n) : xp_m_letter_65 d i l v b y n Q := by
  apply xr_m_letter_65
  rw [if_neg l0, if_pos h0]
  by_cases q0 : i < 0
  · rw [if_pos q0]; exact hQ
  · rw [if_neg q0, if_neg q0]; exact hQ
theorem s_letter (h : d_ac g m n) : ∃ r, (∀ X : Int → w_M → Prop, X r m → xc_x_letter (d + 3) i l m X) ∧ (∀ X : Int → w_M → Prop, X r n → xc_m_letter (e + 1) i l n X) := by
  by_cases h0 : n 428 88 < 0
  · have nw := a_now h h0
    refine ⟨-1, fun X hX => sp_x_letter (d := d) ?_ ?_, fun X hX => ?_⟩
    · unfold k_x_letter
      rw [nw, if_neg (by decide)]
      exact trivial
    · unfold f_x_letter
      rw [nw, if_neg (by decide)]
      exact hX
    · apply xr_m_letter
      rw [if_pos h0]
      exact hX
  · obtain ⟨h1, h2, oI, cu⟩ := h.in (by omega)
    obtain ⟨a1, a2, a3, a4, a5, a6⟩ := a_at h1 cu (by omega)
    obtain ⟨b1, b2, b3, b4, b5, b6, b7, nd⟩ := a_nd oI a4
    have bd := oI.bd
    have bd7 : m 359 7 ≤ 108612 := by
      have := oI.1.1
      unfold s_bd at this
      omega
    obtain ⟨v, hv⟩ : ∃ v, v = n 471 (n 428 88) := ⟨_, rfl⟩
    rw [← hv] at a3 a4 b1 b2 b3 b4 b5 b7 nd
    have gd : ((0 : Int) ≤ v ∧ v < 40000) := ⟨a4.1, b7⟩
    have g88 : (0 : Int) ≤ n 428 88 ∧ n 428 88 < 26 := by omega
    have e60 := nd.2.2.1
    -- the reference: which text
    have inR : ∀ X : Int → w_M → Prop, (l = 0 → (n 432 v = 4 ∨ n 432 v = 5) → xp_m_letter_65 e i l v 1 (n 436 v) n X) → (l = 0 → ¬ (n 432 v = 4 ∨ n 432 v = 5) → xp_m_letter_65 e i l v 0 (n 436 v) n X) → (¬ l = 0 → ∀ b, xp_m_letter_65 e i l v b (n 438 v) n X) → xc_m_letter (e + 1) i l n X := fun X x1 x2 x3 => by
      apply xr_m_letter
      rw [if_neg h0, ← hv]
      refine ⟨g88, gd, z_ite (fun c4 => ?_) (fun c4 => ⟨gd, z_ite (fun c5 => ?_) (fun c5 => ?_)⟩)⟩
      · exact z_ite (fun c => ⟨gd, x1 c (Or.inl c4)⟩) (fun c => ⟨gd, x3 c 1⟩)
      · exact z_ite (fun c => ⟨gd, x1 c (Or.inr c5)⟩) (fun c => ⟨gd, x3 c 1⟩)
      · exact z_ite (fun c => ⟨gd, x2 c (by omega)⟩) (fun c => ⟨gd, x3 c 0⟩)
    by_cases l0 : l = 0
    · have ek : k_x_letter m i l := by
        unfold k_x_letter
        rw [a1, if_pos rfl, if_pos l0]
        exact a2
      have ef : f_x_letter m i l = f_st_letterOf m (g.1 v) i := by
        unfold f_x_letter
        rw [a1, if_pos rfl, if_pos l0, a3]
      by_cases z : n 432 v = 4 ∨ n 432 v = 5
      · obtain ⟨t1, t2⟩ := nd.2.2.2.2.2.2.2.1 z
        refine ⟨if i < 0 then -1 else if i < n 435 v then n 440 (n 436 v + i) % 256 else -1, fun X hX => sp_x_letter (d := d) ek ?_, fun X hX => inR X (fun c _ => r_l65 c gd ?_ hX) (fun _ c => absurd z c) (fun c => absurd l0 c)⟩
        · rw [ef, a_tx b5 b6 bd7 (by rw [e60]; exact z) t1 t2]
          exact hX
        · obtain ⟨s1, s2, s3, s4, s5, s6⟩ := t2
          omega
      · refine ⟨-1, fun X hX => sp_x_letter (d := d) ek ?_, fun X hX => inR X (fun _ c => absurd c z) (fun c _ => r_l65n c hX) (fun c => absurd l0 c)⟩
        rw [ef, a_tx0 ?_]
        · exact hX
        · unfold f_st_letters
          rw [if_neg (by omega), if_pos b5.2, if_pos (by omega), if_neg (by omega), if_neg (by omega)]
    · have ky := nd.2.2.2.2.2.2.2.2.2.2
      by_cases q : n 428 88 = 0
      · refine ⟨-1, fun X hX => sp_x_letter (d := d) ?_ ?_, fun X hX => inR X (fun c => absurd c l0) (fun c => absurd c l0) (fun c b => r_l65k0 c q hX)⟩
        · unfold k_x_letter k_x_keyHere
          rw [a1, if_pos rfl, if_neg l0, if_pos rfl, a5, if_pos q]
          exact trivial
        · unfold f_x_letter f_x_keyHere
          rw [a1, if_pos rfl, if_neg l0, if_pos rfl, a5, if_pos q, a_tx0 (by unfold f_st_letters; rw [if_pos (by decide)])]
          exact hX
      · have ek : k_x_letter m i l := by
          unfold k_x_letter k_x_keyHere
          rw [a1, if_pos rfl, if_neg l0, if_pos rfl, a5, if_neg q]
          omega
        have ef : f_x_letter m i l = f_st_letterOf m (m 364 (g.1 v)) i := by
          unfold f_x_letter f_x_keyHere
          unfold f_x_nodeHere at a3
          rw [a1, if_pos rfl] at a3
          rw [a1, if_pos rfl, if_neg l0, if_pos rfl, if_neg (by omega), a3, b4]
        refine ⟨if i < 0 then -1 else if i < n 439 v then n 440 (n 438 v + i) % 256 else -1, fun X hX => sp_x_letter (d := d) ek ?_, fun X hX => inR X (fun c => absurd c l0) (fun c => absurd c l0) (fun c b => r_l65k c q gd ?_ hX)⟩
        · rw [ef]
          rcases ky with ⟨c1, c2⟩ | ⟨c1, c2, c3, c4, c5⟩
          · rw [c1, a_tx0 (by unfold f_st_letters; rw [if_pos (by decide)])]
            rw [c2] at hX
            by_cases q0 : i < 0
            · rw [if_pos q0] at hX; exact hX
            · rw [if_neg q0, if_neg q0] at hX; exact hX
          · rw [a_tx ⟨c1, c2⟩ b6 bd7 (Or.inl c3) c4 c5]
            exact hX
        · rcases ky with ⟨c1, c2⟩ | ⟨c1, c2, c3, c4, c5⟩
          · exact Or.inl c2
          · obtain ⟨s1, s2, s3, s4, s5, s6⟩ := c5
            exact Or.inr (by omega)
/- down -/
theorem r_d87 : ∀ (K : Nat) (L : List Int) (x j : Int), s_ch n (n 428 15) x L → n 428 15 ≤ 40000 → j + K = i → 0 ≤ j → i ≤ 40000 → K < L.length → xp_m_down_87 d i (L.getD K (-1)) i n Q → xp_m_down_87 d i x j n Q := by
  intro K
  induction K with
  | zero =>
    intro L x j hc hN hj j0 hi hK hQ
    cases L with
    | nil => exact absurd hK (Nat.lt_irrefl 0)
    | cons y L =>
      obtain ⟨c1, c2⟩ := hc
      have e1 : j = i := by omega
      rw [e1, c1]
      exact hQ
  | succ K ih =>
    intro L x j hc hN hj j0 hi hK hQ
    cases L with
    | nil => exact absurd hK (Nat.not_lt_zero _)
    | cons y L =>
      obtain ⟨c1, c2, c3, c4⟩ := hc
      apply xr_m_down_87
      rw [if_pos (by omega), w_32_id (x := j + 1) (by omega) (by omega), c1]
      refine ⟨by omega, ih L (n 437 y) (j + 1) c4 hN (by omega) (by omega) hi ?_ hQ⟩
      have := hK
      simp only [List.length_cons] at this
      omega
theorem s_down (h : d_ac g m n) : ∃ r m1 n1, (∀ X : Int → w_M → Prop, X r m1 → xc_x_down (d + 4) i m X) ∧ (∀ X : Int → w_M → Prop, X r n1 → xc_m_down (e + 2) i n X) ∧ d_ac g m1 n1 ∧ d_cm m m1 ∧ d_cn n n1 := by
  by_cases h0 : n 428 88 < 0
  · have nw := a_now h h0
    refine ⟨-1, m, n, fun X hX => ?_, fun X hX => ?_, h, fun _ _ _ _ => rfl, fun _ _ _ _ => rfl⟩
    · apply xr_x_down
      refine sp_x_isNowhere (d := d + 2) ?_
      rw [nw, if_neg (by decide)]
      exact hX
    · apply xr_m_down
      rw [if_pos h0]
      exact hX
  obtain ⟨h1, h2, oI, cu⟩ := h.in (by omega)
  obtain ⟨a1, a2, a3, a4, a5, a6⟩ := a_at h1 cu (by omega)
  by_cases h24 : n 428 88 = 24
  · refine ⟨-1, m, n, fun X hX => ?_, fun X hX => ?_, h, fun _ _ _ _ => rfl, fun _ _ _ _ => rfl⟩
    · apply xr_x_down
      refine sp_x_isNowhere (d := d + 2) ?_
      rw [a1, if_pos rfl, a5, if_neg (by omega)]
      exact hX
    · apply xr_m_down
      rw [if_neg h0, if_pos h24]
      exact hX
  have e27 : m 427 (n 428 88) = g.1 (n 471 (n 428 88)) := by
    unfold f_x_nodeHere at a3
    rw [a1, if_pos rfl, a5] at a3
    exact a3
  obtain ⟨v, hv⟩ : ∃ v, v = n 471 (n 428 88) := ⟨_, rfl⟩
  obtain ⟨b1, b2, b3, b4, b5, b6, b7, nd⟩ := a_nd oI a4
  rw [← hv] at e27 a4 b5 b7 nd
  have gd : ((0 : Int) ≤ v ∧ v < 40000) := ⟨a4.1, b7⟩
  have g88 : (0 : Int) ≤ n 428 88 ∧ n 428 88 < 26 := by omega
  have e60 := nd.2.2.1
  have bd := oI.bd
  -- nothing there
  have no : (i < 0 ∨ ¬ (n 432 v = 6 ∨ n 432 v = 7) ∨ n 435 v ≤ i) → ∃ r m1 n1, (∀ X : Int → w_M → Prop, X r m1 → xc_x_down (d + 4) i m X) ∧ (∀ X : Int → w_M → Prop, X r n1 → xc_m_down (e + 2) i n X) ∧ d_ac g m1 n1 ∧ d_cm m m1 ∧ d_cn n n1 := fun z => by
    refine ⟨-1, m, n, fun X hX => ?_, fun X hX => ?_, h, fun _ _ _ _ => rfl, fun _ _ _ _ => rfl⟩
    · apply xr_x_down
      refine sp_x_isNowhere (d := d + 2) ?_
      rw [a1, if_pos rfl, a5, if_pos (by omega)]
      refine ⟨by omega, ?_⟩
      rw [e27]
      apply xr_st_part
      refine z_ite (fun c => ?_) (fun c => sp_st_parts (d := d + 1) ?_)
      · rw [if_pos (by decide)]; exact hX
      · rw [if_neg (?_ : ¬ i < f_st_parts m (g.1 v)), if_pos (by decide)]
        · exact hX
        · unfold f_st_parts
          rw [if_neg (by omega), if_pos b5.2, if_pos (by omega), e60]
          by_cases q6 : n 432 v = 6
          · rw [if_pos q6, (nd.2.2.2.2.2.2.2.2.1 (Or.inl q6)).1]; omega
          · by_cases q7 : n 432 v = 7
            · rw [if_neg q6, if_pos q7, (nd.2.2.2.2.2.2.2.2.1 (Or.inr q7)).1]; omega
            · rw [if_neg q6, if_neg q7]; omega
    · apply xr_m_down
      rw [if_neg h0, if_neg h24, ← hv]
      refine z_ite (fun c => hX) (fun c => ⟨g88, gd, ?_⟩)
      have lst : (n 432 v = 6 ∨ n 432 v = 7) → xp_m_down_49 (e + 1) i n X := fun w => by
        apply xr_m_down_49
        rw [← hv, if_neg (by omega)]
        exact ⟨g88, gd, hX⟩
      exact z_ite (fun c6 => lst (Or.inl c6)) (fun c6 => z_ite (fun c7 => lst (Or.inr c7)) (fun c7 => hX))
  by_cases q0 : i < 0
  · exact no (Or.inl q0)
  by_cases q67 : n 432 v = 6 ∨ n 432 v = 7
  · by_cases qi : n 435 v ≤ i
    · exact no (Or.inr (Or.inr qi))
    · obtain ⟨⟨l1, l2, l3, l4⟩, _⟩ := oI.1.2.2.2.2 v a4.1 a4.2 q67
      have len := l1.len bd.1.1
      have hK : i.toNat < (g.2.1 v).length := by omega
      obtain ⟨t, ht⟩ : ∃ t, t = (g.2.1 v).getD i.toNat (-1) := ⟨_, rfl⟩
      have tm : t ∈ g.2.1 v := by
        rw [ht, List.getD_eq_getElem?_getD, List.getElem?_eq_getElem hK]
        exact List.getElem_mem hK
      have tr := l1.mem t tm
      have dp : n 428 88 + 1 ≤ 24 := by omega
      obtain ⟨m1, hm1⟩ : ∃ m1, m1 = w_up (w_up m 357 12 (n 428 88 + 1)) 427 (n 428 88 + 1) (g.1 t) := ⟨_, rfl⟩
      obtain ⟨n1, hn1⟩ : ∃ n1, n1 = w_up (w_up n 428 88 (n 428 88 + 1)) 471 (n 428 88 + 1) t := ⟨_, rfl⟩
      have cm : d_cm m m1 := fun i j q1 q2 => by
        rw [hm1]
        unfold w_up
        rw [if_neg (by omega), if_neg (by omega)]
      have cn : d_cn n n1 := fun i j q1 q2 => by
        rw [hn1]
        unfold w_up
        rw [if_neg (by omega), if_neg (by omega)]
      have o1 : o_I g m1 n1 := oI.cur cm cn
      have g14 : m1 357 14 = 1 := by rw [cm _ _ (by decide) (by decide)]; exact h1
      obtain ⟨c4, c5, c6, c7⟩ := cu.2.2 (by omega)
      have x12 : m1 357 12 = n 428 88 + 1 := by rw [hm1, w_up_ne (by decide), w_up_eq]
      have y88 : n1 428 88 = n 428 88 + 1 := by rw [hn1, w_up_ne (by decide), w_up_eq]
      have x13 : m1 357 13 = m 357 13 := by rw [hm1, w_up_ne (by decide), w_up_nb (by decide)]
      have y89 : n1 428 89 = n 428 89 := by rw [hn1, w_up_ne (by decide), w_up_nb (by decide)]
      have f15 : n1 428 15 = n 428 15 := cn _ _ (by decide) (by decide)
      have cu1 : d_cu g m1 n1 := by
        refine ⟨by rw [x12, y88], by rw [y88]; omega, fun _ => ⟨by rw [x13, y89]; exact c4, ?_, ?_, fun j j0 j1 => ?_⟩⟩
        · rw [y89]
          obtain ⟨u1, u2, u3⟩ := c5
          exact ⟨u1, by rw [cn 428 60 (by decide) (by decide)]; exact u2, by rw [cn 451 _ (by omega) (by decide)]; exact u3⟩
        · rw [y89, cn 455 _ (by omega) (by decide), hn1, w_up_nb (by omega), w_up_ne (by decide)]
          exact c6
        · rw [y88] at j1
          rw [f15]
          by_cases z : j = n 428 88 + 1
          · rw [z, hm1, w_up_eq, hn1, w_up_eq]
            exact ⟨rfl, tr.1, tr.2⟩
          · rw [hm1, w_up_nb z, w_up_ne (by decide), hn1, w_up_nb z, w_up_ne (by decide)]
            exact c7 j j0 (by omega)
      obtain ⟨k1, k2, k3, _⟩ := a_kind o1 g14 cu1 (by rw [y88]; omega)
      refine ⟨f_m_kindHere n1, m1, n1, fun X hX => ?_, fun X hX => ?_, Or.inr ⟨g14, by rw [cn _ _ (by decide) (by decide)]; exact h2, o1, cu1⟩, cm, cn⟩
      · apply xr_x_down
        refine sp_x_isNowhere (d := d + 2) ?_
        rw [a1, if_pos rfl, a5, if_pos (by omega)]
        refine ⟨by omega, ?_⟩
        rw [e27, show g.1 v = s_up g.1 v by unfold s_up; rw [if_neg (by omega)]]
        refine sp_st_part (d := d + 1) oI.1 (Or.inr a4) (by unfold s_kd; rw [if_neg (by omega)]; exact q67) (by omega) ?_
        rw [if_neg q0, ← ht, show s_up g.1 t = g.1 t by unfold s_up; rw [if_neg (by omega)]]
        have ndt := oI.1.2.1 t tr.1 tr.2
        rw [if_neg (by have := ndt.1; omega), a5, w_32_id (x := n 428 88 + 1) (by omega) (by omega), ← hm1]
        refine ⟨by omega, sp_x_kindHere (d := d) k1 ?_⟩
        rw [k3]
        exact hX
      · apply xr_m_down
        rw [if_neg h0, if_neg h24, if_neg q0, ← hv]
        refine ⟨g88, gd, ?_⟩
        have go : xp_m_down_49 (e + 1) i n X := by
          apply xr_m_down_49
          rw [← hv, if_pos (by omega)]
          refine ⟨g88, gd, g88, gd, r_d87 i.toNat (g.2.1 v) (n 436 v) 0 l1 bd.1.2 (by omega) (Int.le_refl _) (by omega) hK ?_⟩
          rw [← ht]
          apply xr_m_down_87
          rw [if_neg (by omega), w_32_id (x := n 428 88 + 1) (by omega) (by omega), ← hn1]
          exact ⟨by omega, sp_m_kindHere (d := e) k2 hX⟩
        exact z_ite (fun _ => go) (fun c6 => z_ite (fun _ => go) (fun c7 => absurd q67 (by omega)))
  · exact no (Or.inr (Or.inl q67))
/- counts -/
theorem a_cn_b : ∀ j : Nat, 0 ≤ a_cn n j ∧ a_cn n j ≤ j := by
  intro j
  induction j with
  | zero => exact ⟨Int.le_refl _, Int.le_refl _⟩
  | succ j ih =>
    show 0 ≤ a_cn n j + (if n 451 (j : Int) = 0 then 0 else 1) ∧ a_cn n j + (if n 451 (j : Int) = 0 then 0 else 1) ≤ ((j + 1 : Nat) : Int)
    by_cases q : n 451 (j : Int) = 0
    · rw [if_pos q]; omega
    · rw [if_neg q]; omega
theorem a_cb_b : ∀ j : Nat, 0 ≤ a_cb n j ∧ a_cb n j ≤ j := by
  intro j
  induction j with
  | zero => exact ⟨Int.le_refl _, Int.le_refl _⟩
  | succ j ih =>
    show 0 ≤ a_cb n j + (if n 460 (j : Int) = 0 then 0 else 1) ∧ a_cb n j + (if n 460 (j : Int) = 0 then 0 else 1) ≤ ((j + 1 : Nat) : Int)
    by_cases q : n 460 (j : Int) = 0
    · rw [if_pos q]; omega
    · rw [if_neg q]; omega
theorem c_obj (h : o_I g m n) : ∀ (K j : Nat), (j : Int) + K = n 428 60 → 1 ≤ j → Q (a_cn n (j + K)) m → xp_x_objects_13 (d + 1) (a_cn n j) (j : Int) m Q := by
  intro K
  induction K with
  | zero =>
    intro j hj j1 hQ
    apply xr_x_objects_13
    rw [if_neg (by have := h.2.2.1.2; omega)]
    exact hQ
  | succ K ih =>
    intro j hj j1 hQ
    have e60 := h.2.2.1
    have cb := a_cn_b (n := n) j
    have step : xp_x_objects_13 (d + 1) (a_cn n (j + 1)) ((j + 1 : Nat) : Int) m Q := ih (j + 1) (by omega) (by omega) (by rw [show j + 1 + K = j + (K + 1) by omega]; exact hQ)
    have es : a_cn n (j + 1) = a_cn n j + (if n 451 (j : Int) = 0 then 0 else 1) := rfl
    apply xr_x_objects_13
    rw [if_pos (by omega), w_32_id (x := (j : Int) + 1) (by omega) (by omega), w_32_id (x := a_cn n j + 1) (by omega) (by omega)]
    by_cases q : n 451 (j : Int) = 0
    · obtain ⟨s1, s2⟩ := a_isf_n (k := (j : Int)) h (fun u => u.2.2 q)
      refine sp_ta_isFree (d := d) s1 ?_
      rw [s2, if_neg (by decide)]
      rw [es, if_pos q, Int.add_zero] at step
      exact step
    · obtain ⟨s1, s2⟩ := a_isf_y (k := (j : Int)) h ⟨by omega, by omega, q⟩
      refine sp_ta_isFree (d := d) s1 ?_
      rw [s2, if_pos rfl]
      rw [es, if_neg q] at step
      exact step
theorem r_obj (hl : n 428 60 ≤ 200) : ∀ (K j : Nat), (j : Int) + K = n 428 60 → Q (a_cn n (j + K)) n → xp_m_objects_13 d (a_cn n j) (j : Int) n Q := by
  intro K
  induction K with
  | zero =>
    intro j hj hQ
    apply xr_m_objects_13
    rw [if_neg (by omega)]
    exact hQ
  | succ K ih =>
    intro j hj hQ
    have cb := a_cn_b (n := n) j
    have step : xp_m_objects_13 d (a_cn n (j + 1)) ((j + 1 : Nat) : Int) n Q := ih (j + 1) (by omega) (by rw [show j + 1 + K = j + (K + 1) by omega]; exact hQ)
    have es : a_cn n (j + 1) = a_cn n j + (if n 451 (j : Int) = 0 then 0 else 1) := rfl
    apply xr_m_objects_13
    rw [if_pos (by omega), w_32_id (x := (j : Int) + 1) (by omega) (by omega), w_32_id (x := a_cn n j + 1) (by omega) (by omega), w_32_id (x := a_cn n j + 0) (by omega) (by omega)]
    refine ⟨by omega, z_ite (fun q => ?_) (fun q => ?_)⟩
    · rw [es, if_pos q] at step
      exact step
    · rw [es, if_neg q] at step
      exact step
theorem s_objects (h : d_ac g m n) : ∃ r, (∀ X : Int → w_M → Prop, X r m → xc_x_objects (d + 2) m X) ∧ (∀ X : Int → w_M → Prop, X r n → xc_m_objects (e + 1) n X) := by
  rcases h with ⟨h1, h2, h3⟩ | ⟨h1, h2, oI, cu⟩
  · refine ⟨-1, fun X hX => ?_, fun X hX => ?_⟩
    · apply xr_x_objects
      rw [if_pos h1]
      exact hX
    · apply xr_m_objects
      rw [if_pos h2]
      exact hX
  · have e60 := oI.2.2.1
    have z0 : n 451 0 = 0 := (oI.n0 (k := 0) (by decide) (fun u => by have := u.1; omega)).1
    have e1 : a_cn n 1 = 0 := by
      show (0 : Int) + (if n 451 ((0 : Nat) : Int) = 0 then 0 else 1) = 0
      rw [if_pos (by exact z0)]
      rfl
    refine ⟨a_cn n (n 428 60).toNat, fun X hX => ?_, fun X hX => ?_⟩
    · apply xr_x_objects
      rw [if_neg (by omega)]
      have := c_obj (d := d) (Q := X) oI ((n 428 60).toNat - 1) 1 (by omega) (by decide) (by rw [show 1 + ((n 428 60).toNat - 1) = (n 428 60).toNat by omega]; exact hX)
      rw [e1] at this
      exact this
    · apply xr_m_objects
      rw [if_neg (by omega)]
      exact r_obj (d := e) (by omega) (n 428 60).toNat 0 (by omega) (by rw [Nat.zero_add]; exact hX)
end AE
