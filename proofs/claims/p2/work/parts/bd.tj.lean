/-! ===== the painter: the pieces of TJ, both sides ===== -/
section PJ
variable {d e : Nat} {g : s_g} {m m' n n' : w_M} {Q : Int → w_M → Prop} {a b v w k s i j x y z K A : Int}
theorem p_sf.cf (h : p_sf m m') : s_cf m m' := ⟨by rw [h 359 6 (by decide) (by decide) (by decide)]; exact Int.le_refl _, by rw [h 359 7 (by decide) (by decide) (by decide)]; exact Int.le_refl _, fun a b q1 q2 _ _ => h a b (by omega) (by omega) (by omega), fun b _ => h 365 b (by decide) (by decide) (by omega)⟩
theorem p_sn.mf (h : p_sn n n') : s_mf n n' := ⟨by rw [h 428 15 (by decide) (by decide) (by decide)]; exact Int.le_refl _, by rw [h 428 17 (by decide) (by decide) (by decide)]; exact Int.le_refl _, fun a b q1 q2 _ _ => h a b (by omega) (by omega) (by omega), fun b _ => h 440 b (by decide) (by decide) (by omega)⟩
theorem p_sst (h : s_st g m n) (hm : p_sf m m') (hn : p_sn n n') : s_st g m' n' := by
  have bd := h.1
  refine h.fr hm.cf hn.mf (hn 428 15 (by decide) (by decide) (by decide)) ?_
  unfold s_bd at bd ⊢
  rw [hm 359 6 (by decide) (by decide) (by decide), hm 359 7 (by decide) (by decide) (by decide), hn 428 15 (by decide) (by decide) (by decide), hn 428 17 (by decide) (by decide) (by decide)]
  exact bd
/-- a string of the store -/
theorem p_S.of (h : s_st g m n) (hz : 0 ≤ z ∧ z < n 428 15) (h5 : n 432 z = 5) : p_S m n (g.1 z) z := by
  have nd := h.2.1 z hz.1 hz.2
  have bd := h.1
  unfold s_bd at bd
  obtain ⟨t1, t2⟩ := nd.2.2.2.2.2.2.2.1 (Or.inr h5)
  exact ⟨⟨by have := nd.1; omega, nd.2.1⟩, by omega, by omega, by rw [nd.2.2.1]; exact h5, t1, t2, ⟨hz.1, by omega⟩, by omega⟩
/-- units of a number of the store, on both sides -/
theorem p_units (h : s_st g m n) (hz : 0 ≤ z ∧ z < n 428 15) (hn : t_nu n z) (h32 : p_32 (n 433 z)) : f_st_units m (g.1 z) = f_m_unitsOf n z ∧ k_m_unitsOf n z ∧ p_32 (f_m_unitsOf n z) := by
  have nd := h.2.1 z hz.1 hz.2
  have bd := h.1
  unfold s_bd at bd
  have r : 0 ≤ g.1 z ∧ g.1 z < m 359 6 := ⟨by have := nd.1; omega, nd.2.1⟩
  obtain ⟨z0, z1⟩ := hn
  have e1 : m 361 (g.1 z) = n 433 z := nd.2.2.2.2.2.1 (by omega)
  unfold f_st_units f_m_unitsOf k_m_unitsOf
  rw [f_kind_v r (by omega), f_one_v r (by omega), nd.2.2.1, e1, Int.mul_comm 65536]
  refine ⟨rfl, ⟨⟨by omega, by omega⟩, by omega, by omega⟩, ?_⟩
  by_cases q : n 432 z = 3
  · rw [if_pos q]; exact h32
  · rw [if_neg q]; exact p_w32
theorem s_tj : ∀ (L : List Int) (x y : Int) (m n : w_M), s_st g m n → s_ch n (n 428 15) x L → (L ≠ [] → y = g.1 x) → (∀ z ∈ L, (n 432 z = 5 ∧ 0 ≤ n 479 0) ∨ (n 432 z ≠ 5 ∧ t_nu n z ∧ p_32 (n 433 z))) → p_Z m n → n 428 27 = 0 → n 428 106 = A →
    xp_m_row2_71 (e + 10) x n (fun _ n1 => ∃ r m1, (∀ X : Int → w_M → Prop, X r m1 → xp_pa_showText_65 (d + 4) y 0 (L.length : Int) m X) ∧ p_sf m m1 ∧ p_sn n n1 ∧
    ((r = 0 ∧ n1 428 27 = 0 ∧ p_Z m1 n1) ∨ (r ≠ 0 ∧ n1 428 27 = r ∧ n1 428 28 = A))) := by
  intro L
  induction L with
  | nil =>
    intro x y m n hst hc hy hL hZ h27 hA
    have hx : x = -1 := hc
    apply xr_m_row2_71
    rw [if_pos (by omega)]
    refine ⟨0, m, fun X hX => ?_, fun _ _ _ _ _ => rfl, fun _ _ _ _ _ => rfl, Or.inl ⟨rfl, h27, hZ⟩⟩
    apply xr_pa_showText_65
    rw [if_neg (by decide)]
    exact hX
  | cons z L ih =>
    intro x y m n hst hc hy hL hZ h27 hA
    obtain ⟨c1, c2, c3, c4⟩ := hc
    subst c1
    have ey := hy (by simp)
    subst ey
    have bd := hst.1
    unfold s_bd at bd
    have nd := hst.2.1 x c2 c3
    have r : 0 ≤ g.1 x ∧ g.1 x < m 359 6 := ⟨by have := nd.1; omega, nd.2.1⟩
    have lk := nd.2.2.2.2.2.2.2.2.2.1
    have x4 : (0 : Int) ≤ x ∧ x < 40000 := by omega
    have len : ((x :: L).length : Int) = (L.length : Int) + 1 := by simp
    obtain ⟨N, hN⟩ : ∃ N : Int, N = (L.length : Int) := ⟨_, rfl⟩
    have N0 : 0 ≤ N := by omega
    have llen : N ≤ 40000 := by
      have := s_ch.len c4 (by omega)
      omega
    rw [len, ← hN]
    have good1 : ∀ q : w_M, q 428 27 = 0 → f_m_good q = 1 := fun q e => if_pos e
    have n10 : ¬ (1 : Int) = 0 := by decide
    -- the class's next part
    have nxt : ∀ m2 : w_M, p_sf m m2 → f_st_nextOf m2 (g.1 x) = m 363 (g.1 x) := fun m2 q => by
      have e6 : m2 359 6 = m 359 6 := q 359 6 (by decide) (by decide) (by decide)
      unfold f_st_nextOf
      rw [if_neg (by omega), if_pos (by omega), if_pos (by omega)]
      exact q 363 _ (by decide) (by decide) (by omega)
    have hL2 : L ≠ [] → m 363 (g.1 x) = g.1 (n 437 x) := fun q => by
      rcases lk with e | ⟨e1, e2, e3⟩
      · cases L with
        | nil => exact absurd rfl q
        | cons u L2 =>
          obtain ⟨u1, u2, _⟩ := c4
          omega
      · exact e3
    -- the rest of the pieces
    have go : ∀ (m2 n2 : w_M), p_sf m m2 → p_sn n n2 → p_Z m2 n2 → n2 428 27 = 0 → (∀ X : Int → w_M → Prop, xp_pa_showText_65 (d + 4) (m 363 (g.1 x)) 0 N m2 X → xp_pa_showText_65 (d + 4) (g.1 x) 0 (N + 1) m X) →
        xp_m_row2_71 (e + 10) (n2 437 x) n2 (fun _ n1 => ∃ r m1, (∀ X : Int → w_M → Prop, X r m1 → xp_pa_showText_65 (d + 4) (g.1 x) 0 (N + 1) m X) ∧ p_sf m m1 ∧ p_sn n n1 ∧ ((r = 0 ∧ n1 428 27 = 0 ∧ p_Z m1 n1) ∨ (r ≠ 0 ∧ n1 428 27 = r ∧ n1 428 28 = A))) := fun m2 n2 q1 q2 q3 q4 run => by
      have f : ∀ i j : Int, 432 ≤ i → i ≤ 459 → n2 i j = n i j := fun i j w1 w2 => q2 i j (by omega) (by omega) (by omega)
      have f15 : n2 428 15 = n 428 15 := q2 _ _ (by decide) (by decide) (by decide)
      rw [f 437 x (by decide) (by decide)]
      refine w_W.more (ih (n 437 x) (m 363 (g.1 x)) m2 n2 (p_sst hst q1 q2) ?_ hL2 (fun u hu => ?_) q3 q4 (by rw [q2 _ _ (by decide) (by decide) (by decide)]; exact hA)) (fun _ n3 h3 => ?_)
      · rw [f15]
        exact c4.fr (Int.le_refl _) (fun u _ => f 437 u (by decide) (by decide))
      · have := hL u (List.mem_cons_of_mem _ hu)
        unfold t_nu at this ⊢
        rw [f 432 u (by decide) (by decide), f 433 u (by decide) (by decide), q2 479 0 (by decide) (by decide) (by decide)]
        exact this
      · obtain ⟨r3, m3, run3, s3, t3, fin⟩ := h3
        rw [← hN] at run3
        exact ⟨r3, m3, fun X hX => run X (run3 X hX), fun i j w1 w2 w3 => by rw [s3 i j w1 w2 w3]; exact q1 i j w1 w2 w3, fun i j w1 w2 w3 => by rw [t3 i j w1 w2 w3]; exact q2 i j w1 w2 w3, fin⟩
    -- a fault ends both
    have stop : ∀ (rr : Int) (m2 n2 : w_M), p_sf m m2 → p_sn n n2 → rr ≠ 0 → n2 428 27 = rr → n2 428 28 = A → (∀ X : Int → w_M → Prop, xp_pa_showText_65 (d + 4) (m 363 (g.1 x)) rr N m2 X → xp_pa_showText_65 (d + 4) (g.1 x) 0 (N + 1) m X) →
        xp_m_row2_71 (e + 10) (n2 437 x) n2 (fun _ n1 => ∃ r m1, (∀ X : Int → w_M → Prop, X r m1 → xp_pa_showText_65 (d + 4) (g.1 x) 0 (N + 1) m X) ∧ p_sf m m1 ∧ p_sn n n1 ∧ ((r = 0 ∧ n1 428 27 = 0 ∧ p_Z m1 n1) ∨ (r ≠ 0 ∧ n1 428 27 = r ∧ n1 428 28 = A))) := fun rr m2 n2 q1 q2 q3 q4 q5 run => by
      have post : ∃ r m1, (∀ X : Int → w_M → Prop, X r m1 → xp_pa_showText_65 (d + 4) (g.1 x) 0 (N + 1) m X) ∧ p_sf m m1 ∧ p_sn n n2 ∧ ((r = 0 ∧ n2 428 27 = 0 ∧ p_Z m1 n2) ∨ (r ≠ 0 ∧ n2 428 27 = r ∧ n2 428 28 = A)) := by
        refine ⟨rr, m2, fun X hX => run X ?_, q1, q2, Or.inr ⟨q3, q4, q5⟩⟩
        apply xr_pa_showText_65
        refine z_ite (fun _ => ?_) (fun _ => hX)
        rw [if_neg q3]
        exact hX
      apply xr_m_row2_71
      refine z_ite (fun _ => post) (fun _ => ?_)
      refine sp_m_good (d := e + 9) ?_
      rw [show f_m_good n2 = 0 from if_neg (by rw [q4]; exact q3), if_pos rfl]
      exact post
    apply xr_m_row2_71
    rw [if_neg (by omega)]
    refine sp_m_good (d := e + 9) ?_
    rw [good1 n h27, if_neg n10]
    refine ⟨x4, ?_⟩
    have wN : w_32 (N + 1 + -1) = N := by rw [w_32_id (by omega) (by omega)]; omega
    rcases hL x (List.mem_cons_self ..) with ⟨k5, f0⟩ | ⟨k5, nu, v32⟩
    · rw [if_pos k5]
      refine w_C.more (s_shows (d := d) (e := e) (p_S.of hst ⟨c2, c3⟩ k5) hZ h27 f0) (fun _ n2 h2 => ?_)
      obtain ⟨r2, m2, run2, s2, t2, fin2⟩ := h2
      have runX : ∀ X : Int → w_M → Prop, xp_pa_showText_65 (d + 4) (m 363 (g.1 x)) r2 N m2 X → xp_pa_showText_65 (d + 4) (g.1 x) 0 (N + 1) m X := fun X hX => by
        apply xr_pa_showText_65
        rw [if_pos (by omega), if_pos rfl]
        refine sp_st_kindOf (d := d + 3) ?_
        rw [f_kind_v r (by omega), nd.2.2.1, if_pos k5]
        refine run2 _ ?_
        refine sp_st_nextOf (d := d + 3) ?_
        rw [nxt m2 s2, wN]
        exact hX
      refine ⟨x4, ?_⟩
      rcases fin2 with ⟨e1, e2, e3⟩ | ⟨e1, e2, e3⟩
      · exact go m2 n2 s2 t2 e3 e2 (fun X hX => runX X (by rw [e1]; exact hX))
      · exact stop r2 m2 n2 s2 t2 e1 e2 (by rw [e3]; exact hA) runX
    · rw [if_neg k5]
      obtain ⟨un, ku, u32⟩ := p_units hst ⟨c2, c3⟩ nu v32
      obtain ⟨u, hu⟩ : ∃ u, u = f_m_unitsOf n x := ⟨_, rfl⟩
      obtain ⟨zM, zg, z7, ⟨z8, z8'⟩, z9, z10, zW⟩ := id hZ
      refine sp_m_unitsOf (d := e + 9) ku ?_
      rw [← hu] at un u32 ⊢
      have b := p_mulb u32 z8'
      have e1 : w_64 (-u) = -u := by unfold p_32 at u32; exact w_64_id (by omega) (by omega)
      have nm : -u * n 479 5 = -(u * n 479 5) := Int.neg_mul ..
      rw [e1, w_64_id (x := -u * n 479 5) (by omega) (by omega)]
      refine sp_m_thousandth (d := e + 9) ?_
      rw [p_th_m (by omega)]
      refine w_C.more (s_moves (d := d + 1) (e := e + 6) (v := p_th (-u * n 479 5)) zM h27) (fun _ n2 h2 => ?_)
      obtain ⟨r2, m2, run2, s2, t2, fin2⟩ := h2
      have s2' : p_sf m m2 := fun i j w1 w2 w3 => s2 i j (by omega)
      have t2' : p_sn n n2 := fun i j w1 w2 w3 => t2 i j w1 (by omega)
      have runX : ∀ X : Int → w_M → Prop, xp_pa_showText_65 (d + 4) (m 363 (g.1 x)) (if r2 = 0 then 14 else 0) N m2 X → xp_pa_showText_65 (d + 4) (g.1 x) 0 (N + 1) m X := fun X hX => by
        apply xr_pa_showText_65
        rw [if_pos (by omega), if_pos rfl]
        refine sp_st_kindOf (d := d + 3) ?_
        rw [f_kind_v r (by omega), nd.2.2.1, if_neg k5]
        refine sp_st_units (d := d + 2) ?_
        rw [un, e1]
        refine sp_scaled (d := d + 2) (by rw [z8]; exact z8') (Or.inr (by rw [Int.neg_neg]; exact u32)) ?_
        rw [z8]
        refine run2 _ ?_
        by_cases q : r2 = 0
        · rw [if_pos q] at hX ⊢
          refine sp_st_nextOf (d := d + 3) ?_
          rw [nxt m2 s2', wN]
          exact hX
        · rw [if_neg q] at hX ⊢
          refine sp_st_nextOf (d := d + 3) ?_
          rw [nxt m2 s2', wN]
          exact hX
      refine ⟨x4, ?_⟩
      rcases fin2 with ⟨e1, e2, e3⟩ | ⟨e1, e2, e3⟩
      · refine go m2 n2 s2' t2' ⟨e3, ⟨?_, ?_, fun i i0 i1 => ?_⟩, ?_, ⟨?_, ?_⟩, ⟨?_, ?_⟩, ⟨?_, ?_⟩, zW.fr (fun c => s2' 414 c (by decide) (by decide) (by omega)) t2'.st⟩ e2 (fun X hX => runX X (by rw [e1, if_neg n10]; exact hX))
        · rw [s2 404 18 (by decide), t2 428 104 (by decide) (by decide)]; exact zg.1
        · rw [t2 428 104 (by decide) (by decide)]; exact zg.2.1
        · rw [t2 428 104 (by decide) (by decide)] at i1
          rw [s2 416 i (by decide), t2 481 i (by decide) (by omega)]; exact zg.2.2 i i0 i1
        · rw [s2 408 7 (by decide), t2 479 1 (by decide) (by decide)]; exact z7
        · rw [s2 408 8 (by decide), t2 479 5 (by decide) (by decide)]; exact z8
        · rw [t2 479 5 (by decide) (by decide)]; exact z8'
        · rw [s2 408 9 (by decide), t2 479 6 (by decide) (by decide)]; exact z9.1
        · rw [t2 479 6 (by decide) (by decide)]; exact z9.2
        · rw [s2 408 10 (by decide), t2 479 7 (by decide) (by decide)]; exact z10.1
        · rw [t2 479 7 (by decide) (by decide)]; exact z10.2
      · exact stop 14 m2 n2 s2' t2' (by decide) e2 (by rw [e3]; exact hA) (fun X hX => runX X (by rw [e1, if_pos rfl]; exact hX))
end PJ
