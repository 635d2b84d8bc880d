/-! ===== filters: the reference's decode, whole ===== -/
section FS
variable {d : Nat} {g : s_g} {m m' n n' n2 : w_M} {Q : Int → w_M → Prop} {N T b f p q k w y x x0 i s c e ww fr F : Int} {l L o : List Int} {I : Int → Int}
theorem r_412_0 (h0 : Q 0 (m_fl n 7 ww)) : xp_m_filters_412 (d + 1) ww 0 F x0 p e n Q := by
  apply xr_m_filters_412
  rw [if_pos rfl]
  refine sp_m_fail ?_
  exact h0
theorem r_290_0 (h0 : Q 0 (m_fl n 7 ww)) : xp_m_filters_290 (d + 1) ww 0 F x0 x p e q i n Q := by
  apply xr_m_filters_290
  refine z_ite (fun _ => ?_) (fun _ => r_412_0 h0)
  rw [if_pos rfl]
  exact r_412_0 h0
theorem r_248_0 (h0 : Q 0 (m_fl n 7 ww)) : xp_m_filters_248 (d + 1) ww 0 F x0 p e n Q := by
  apply xr_m_filters_248
  rw [if_pos rfl]
  exact r_290_0 h0
/-- the parameters of each filter are looked at -/
theorem r_filters_290 (h : s_st g m n) (hp : s_no n p) (hl3 : (z_ns g n f).length ≤ 3) (E1 : z_n3 g n f p → xp_m_filters_412 (d + 10) ww 1 (z_ns g n f).length x0 p e n Q) (E0 : ¬ z_n3 g n f p → Q 0 (m_fl n 7 ww)) : ∀ (suf pre : List Int) (x q : Int), z_ns g n f = pre ++ suf → z_hd n (n 428 15) x suf → z_pr2 g n p e q pre.length (z_ns g n f).length → (∀ k : Nat, k < pre.length → z_n3k g n ((z_ns g n f).getD k 0) (z_pm g n p k)) →
    xp_m_filters_290 (d + 10) ww 1 (z_ns g n f).length x0 x p e q pre.length n Q := by
  intro suf
  have bd := h.1
  unfold s_bd at bd
  induction suf with
  | nil =>
    intro pre x q hl _ _ ha
    have e : z_ns g n f = pre := by rw [hl, List.append_nil]
    have E := E1 (fun k hk => ha k (by rw [← e]; exact hk))
    rw [e] at E ⊢
    apply xr_m_filters_290
    rw [if_neg (by omega)]
    exact E
  | cons y suf ih =>
    intro pre x q hl hx hq ha
    have hlen2 : (z_ns g n f).length = pre.length + (suf.length + 1) := by rw [hl, List.length_append]; rfl
    have hget : (z_ns g n f).getD pre.length 0 = y := by
      rw [hl, List.getD_eq_getElem?_getD, List.getElem?_append_right (Nat.le_refl _), Nat.sub_self]
      rfl
    obtain ⟨ex, y0, y1, hx2⟩ := hx
    subst ex
    obtain ⟨eq, qno, qn1, qn0, e01⟩ := hq.now hp (by omega)
    have len1' : (pre ++ [x]).length = pre.length + 1 := by rw [List.length_append]; rfl
    have e32 : w_32 ((pre.length : Int) + 1) = ((pre ++ [x]).length : Int) := by rw [len1']; exact w_32_id (by omega) (by omega)
    -- all well: the next one; else the fault
    have yes : z_n3k g n x q → xp_m_filters_378 (d + 10) ww 1 (z_ns g n f).length x0 x p e q pre.length n Q := by
      intro z
      have go : ∀ q', z_pr2 g n p e q' (pre.length + 1) (z_ns g n f).length → xp_m_filters_290 (d + 10) ww 1 (z_ns g n f).length x0 (n 437 x) p e q' (w_32 ((pre.length : Int) + 1)) n Q := by
        intro q' hq'
        rw [e32]
        refine ih (pre ++ [x]) (n 437 x) q' (by rw [hl, List.append_assoc]; rfl) hx2 (by rw [len1']; exact hq') (fun k hk => ?_)
        rw [len1'] at hk
        by_cases zk : k = pre.length
        · rw [zk, hget, ← eq]; exact z
        · have hk2 : k < pre.length := by clear e32; omega
          exact ha k hk2
      apply xr_m_filters_378
      rcases e01 with z2 | z2
      · rw [if_pos z2]
        exact ⟨by omega, go q (qn0 z2)⟩
      · obtain ⟨w1, w2, w3⟩ := qn1 z2
        rw [if_neg (by omega)]
        exact ⟨by omega, by omega, go _ w3⟩
    have no : ¬ z_n3k g n x q → xp_m_filters_378 (d + 10) ww 0 (z_ns g n f).length x0 x p e q pre.length n Q := by
      intro z
      have z7 := E0 (fun w => z (by
        have := w pre.length (by omega)
        rw [hget, ← eq] at this
        exact this))
      apply xr_m_filters_378
      rcases e01 with z2 | z2
      · rw [if_pos z2]
        exact ⟨by omega, r_290_0 z7⟩
      · obtain ⟨w1, w2, w3⟩ := qn1 z2
        rw [if_neg (by omega)]
        exact ⟨by omega, by omega, r_290_0 z7⟩
    apply xr_m_filters_290
    rw [if_pos (by omega), if_neg (by decide)]
    by_cases q0 : q < 0
    · rw [if_pos q0]
      apply xr_m_filters_334
      rw [if_neg (by decide), if_pos q0]
      exact yes (Or.inl q0)
    · rw [if_neg q0]
      have qn : 0 ≤ q ∧ q < n 428 15 := by
        rcases qno with w | w
        · omega
        · exact w
      refine ⟨by omega, ?_⟩
      by_cases k0 : n 432 q = 0
      · rw [if_pos k0]
        apply xr_m_filters_334
        rw [if_neg (by decide), if_neg q0]
        refine ⟨by omega, ?_⟩
        rw [if_neg (by omega)]
        exact yes (Or.inr (Or.inl k0))
      · rw [if_neg k0]
        refine ⟨by omega, ?_⟩
        by_cases k7 : n 432 q = 7
        · rw [if_pos k7]
          apply xr_m_filters_334
          rw [if_neg (by decide), if_neg q0]
          refine ⟨by omega, ?_⟩
          rw [if_pos k7]
          refine r_nk h t_flate (Or.inr ⟨y0, y1⟩) (fun zf => ?_) (fun zf => ?_)
          · rw [if_neg (by decide)]
            refine r_isPredictor h qn k7 (fun z => yes (Or.inr (Or.inr ⟨k7, fun _ => z⟩))) (fun z => no (fun w => ?_))
            rcases w with w | w | w
            · omega
            · omega
            · exact z (w.2 zf)
          · rw [if_pos rfl]
            exact yes (Or.inr (Or.inr ⟨k7, fun w => absurd w zf⟩))
        · rw [if_neg k7]
          apply xr_m_filters_334
          rw [if_pos rfl]
          exact no (fun w => by unfold z_n3k at w; omega)
theorem r_filters_147 (h : s_st g m n) (hb : 0 ≤ b ∧ b < n 428 15) (h7 : n 432 b = 7) (hp : p = s_fd n (s_wd 22) (g.2.1 b)) (hf : 0 ≤ f) {v : Int} (hv : v = 0 ∨ v = 1) (hv1 : v = 1 ↔ z_n1 g n f) (hF : v = 1 → F = (z_ns g n f).length) (hx : v = 1 → z_hd n (n 428 15) x0 (z_ns g n f))
    (E1 : z_ok g n f p → ∀ q, z_pr2 g n p (if p < 0 then 0 else if n 432 p = 6 then 1 else 0) q 0 (z_ns g n f).length → xp_m_filters_460 (d + 10) ww (z_ns g n f).length x0 (if p < 0 then 0 else if n 432 p = 6 then 1 else 0) q 0 n Q) (E0 : ¬ z_ok g n f p → Q 0 (m_fl n 7 ww)) : xp_m_filters_147 (d + 10) b ww v F x0 n Q := by
  have bd := h.1
  unfold s_bd at bd
  have no := h.fd (l := s_wd 22) hb h7
  rw [← hp] at no
  obtain ⟨ee, hee⟩ : ∃ ee : Int, ee = if p < 0 then 0 else if n 432 p = 6 then 1 else 0 := ⟨_, rfl⟩
  rw [← hee] at E1
  apply xr_m_filters_147
  refine r_direct (d := d + 3) h t_parms hb h7 ?_
  rw [← hp]
  have pr : p < 0 ∨ (0 ≤ p ∧ p < 40000) := by rcases no with w | w <;> omega
  -- flags
  have f0 : ¬ z_ok g n f p → ∀ s0, xp_m_filters_248 (d + 10) ww 0 F x0 p s0 n Q := fun z s0 => r_248_0 (E0 z)
  by_cases v0 : v = 0
  · have z : ¬ z_ok g n f p := fun w => by
      have := hv1.mpr w.1
      omega
    rw [if_pos v0]
    by_cases p0 : p < 0
    · rw [if_pos p0]; exact f0 z _
    · rw [if_neg p0]
      refine ⟨by omega, ?_⟩
      exact z_ite (fun _ => f0 z _) (fun _ => f0 z _)
  · have v1 : v = 1 := by omega
    have n1 := hv1.mp v1
    have hF := hF v1
    have hx := hx v1
    rw [if_neg v0]
    -- all well so far
    have f1 : z_n2 g n f p → xp_m_filters_248 (d + 10) ww 1 F x0 p ee n Q := by
      intro z2
      have e412 : ∀ q', z_pr2 g n p ee q' 0 (z_ns g n f).length → xp_m_filters_290 (d + 10) ww 1 F x0 x0 p ee q' 0 n Q := by
        intro q' hq'
        rw [hF]
        refine r_filters_290 (f := f) h no (z_n1_3 n1) (fun z3 => ?_) (fun z3 => E0 (fun w => z3 w.2.2)) (z_ns g n f) [] x0 q' rfl hx hq' (fun k hk => absurd hk (Nat.not_lt_zero _))
        have ok : z_ok g n f p := ⟨n1, z2, z3⟩
        apply xr_m_filters_412
        rw [if_neg (by decide)]
        by_cases p0 : p < 0
        · have he : ee = 0 := hee.trans (if_pos p0)
          rw [if_pos p0]
          exact E1 ok (-1) (Or.inr ⟨he, Or.inl p0, (if_pos p0).symm⟩)
        · rw [if_neg p0]
          by_cases k6 : n 432 p = 6
          · have he : ee = 1 := hee.trans ((if_neg p0).trans (if_pos k6))
            rw [if_neg (by omega)]
            refine ⟨by omega, E1 ok _ (Or.inl ⟨he, by omega, k6, ?_, ?_⟩)⟩
            · rcases z2 with w | w | w | w | w
              · omega
              · omega
              · omega
              · omega
              · exact w.2
            · exact (h.2.2.2.2 p (by omega) (by rcases no with w | w <;> omega) (Or.inl k6)).1.1.hd
          · have he : ee = 0 := hee.trans ((if_neg p0).trans (if_neg k6))
            rw [if_pos he]
            exact E1 ok _ (Or.inr ⟨he, Or.inr ⟨by omega, k6⟩, (if_neg p0).symm⟩)
      apply xr_m_filters_248
      rw [if_neg (by decide)]
      by_cases p0 : p < 0
      · have he : ee = 0 := hee.trans (if_pos p0)
        rw [if_pos p0]
        exact e412 _ (Or.inr ⟨he, Or.inl p0, (if_pos p0).symm⟩)
      · rw [if_neg p0]
        by_cases k6 : n 432 p = 6
        · have he : ee = 1 := hee.trans ((if_neg p0).trans (if_pos k6))
          rw [if_neg (by omega)]
          refine ⟨by omega, e412 _ (Or.inl ⟨he, by omega, k6, ?_, ?_⟩)⟩
          · rcases z2 with w | w | w | w | w
            · omega
            · omega
            · omega
            · omega
            · exact w.2
          · exact (h.2.2.2.2 p (by omega) (by rcases no with w | w <;> omega) (Or.inl k6)).1.1.hd
        · have he : ee = 0 := hee.trans ((if_neg p0).trans (if_neg k6))
          rw [if_pos he]
          exact e412 _ (Or.inr ⟨he, Or.inr ⟨by omega, k6⟩, (if_neg p0).symm⟩)
    by_cases p0 : p < 0
    · have he : ee = 0 := hee.trans (if_pos p0)
      rw [if_pos p0, if_pos p0, ← he]
      exact f1 (Or.inl p0)
    · rw [if_neg p0]
      refine ⟨by omega, ?_⟩
      by_cases k0 : n 432 p = 0
      · have he : ee = 0 := hee.trans ((if_neg p0).trans (if_neg (by omega)))
        rw [if_pos k0, if_neg p0]
        refine ⟨by omega, ?_⟩
        rw [if_neg (by omega), ← he]
        exact f1 (Or.inr (Or.inr (Or.inl k0)))
      · rw [if_neg k0]
        refine ⟨by omega, ?_⟩
        -- the array
        have arr : n 432 p ≠ 7 ∨ F ≠ 1 → xp_m_filters_195 (d + 10) ww F x0 p n Q := by
          intro z
          apply xr_m_filters_195
          refine ⟨by omega, ?_⟩
          by_cases k6 : n 432 p = 6
          · have he : ee = 1 := hee.trans ((if_neg p0).trans (if_pos k6))
            obtain ⟨p1, p2, p3, p4⟩ := h.prt no (Or.inl ((if_neg p0).trans k6))
            rw [if_pos k6]
            refine ⟨by omega, ?_⟩
            by_cases k5 : n 435 p = F
            · rw [if_pos k5, if_neg p0]
              refine ⟨by omega, ?_⟩
              rw [if_pos k6]
              have E := f1 (Or.inr (Or.inr (Or.inr (Or.inr ⟨k6, by omega⟩))))
              rw [he] at E
              exact E
            · rw [if_neg k5, if_neg p0]
              refine ⟨by omega, ?_⟩
              rw [if_pos k6]
              exact f0 (fun w => by have := w.2.1; unfold z_n2 at this; omega) _
          · rw [if_neg k6, if_neg p0]
            refine ⟨by omega, ?_⟩
            rw [if_neg k6]
            exact f0 (fun w => by have := w.2.1; unfold z_n2 at this; omega) _
        by_cases k7 : n 432 p = 7
        · have he : ee = 0 := hee.trans ((if_neg p0).trans (if_neg (by omega)))
          rw [if_pos k7]
          by_cases F1 : F = 1
          · rw [if_pos F1, if_neg p0]
            refine ⟨by omega, ?_⟩
            rw [if_neg (by omega), ← he]
            exact f1 (Or.inr (Or.inr (Or.inr (Or.inl ⟨k7, by omega⟩))))
          · rw [if_neg F1]
            exact arr (Or.inr F1)
        · rw [if_neg k7]
          exact arr (Or.inl k7)
/-- the names are looked at -/
theorem r_filters_89 (h : s_st g m n) (E1 : (∀ y ∈ l, s_nk n y (s_wd 23) ∨ s_nk n y (s_wd 24)) → xp_m_filters_147 (d + 9) b ww 1 l.length x0 n Q) (E0 : (¬ ∀ y ∈ l, s_nk n y (s_wd 23) ∨ s_nk n y (s_wd 24)) → xp_m_filters_147 (d + 9) b ww 0 l.length x0 n Q) (hl3 : l.length ≤ 3) : ∀ (suf pre : List Int) (x : Int), l = pre ++ suf → z_hd n (n 428 15) x suf → (∀ y ∈ pre, s_nk n y (s_wd 23) ∨ s_nk n y (s_wd 24)) →
    xp_m_filters_89 (d + 9) b ww 1 l.length x0 x pre.length n Q := by
  intro suf
  have bd := h.1
  unfold s_bd at bd
  induction suf with
  | nil =>
    intro pre x hl _ ha
    have e : l = pre := by rw [hl, List.append_nil]
    apply xr_m_filters_89
    rw [if_neg (by rw [e]; omega)]
    exact E1 (by rw [e]; exact ha)
  | cons y suf ih =>
    intro pre x hl hx ha
    have hlen2 : l.length = pre.length + (suf.length + 1) := by rw [hl, List.length_append]; rfl
    obtain ⟨ex, y0, y1, hx2⟩ := hx
    subst ex
    have len1' : (pre ++ [x]).length = pre.length + 1 := by rw [List.length_append]; rfl
    have e32 : w_32 ((pre.length : Int) + 1) = ((pre ++ [x]).length : Int) := by rw [len1']; exact w_32_id (by omega) (by omega)
    have yes : (s_nk n x (s_wd 23) ∨ s_nk n x (s_wd 24)) → xp_m_filters_89 (d + 9) b ww 1 l.length x0 (n 437 x) (w_32 ((pre.length : Int) + 1)) n Q := by
      intro z
      rw [e32]
      refine ih (pre ++ [x]) (n 437 x) (by rw [hl, List.append_assoc]; rfl) hx2 (fun y' hy' => ?_)
      rcases List.mem_append.mp hy' with w | w
      · exact ha y' w
      · rw [List.mem_singleton.mp w]; exact z
    apply xr_m_filters_89
    rw [if_pos (by omega), if_neg (by decide)]
    refine r_nk (d := d + 3) h t_flate (Or.inr ⟨y0, y1⟩) (fun zf => ?_) (fun zf => ?_)
    · rw [if_neg (by decide)]
      exact ⟨by omega, yes (Or.inl zf)⟩
    · rw [if_pos rfl]
      refine r_nk (d := d + 3) h t_ahex (Or.inr ⟨y0, y1⟩) (fun zf2 => ?_) (fun zf2 => ?_)
      · rw [if_neg (by decide)]
        exact ⟨by omega, yes (Or.inr zf2)⟩
      · rw [if_pos rfl]
        refine ⟨by omega, ?_⟩
        have z : ¬ ∀ y ∈ l, s_nk n y (s_wd 23) ∨ s_nk n y (s_wd 24) := fun w => by
          rcases w x (by rw [hl]; exact List.mem_append_right _ (List.mem_cons_self ..)) with v | v
          · exact zf v
          · exact zf2 v
        have st : ∀ K x' : Int, xp_m_filters_89 (d + 9) b ww 0 l.length x0 x' K n Q := by
          intro K x'
          have E := E0 z
          obtain ⟨F, hF⟩ : ∃ F : Int, F = l.length := ⟨_, rfl⟩
          rw [← hF] at E ⊢
          apply xr_m_filters_89
          refine z_ite (fun _ => ?_) (fun _ => E)
          rw [if_pos rfl]
          exact E
        exact st _ _
theorem r_filters (h : s_st g m n) (hb : 0 ≤ b ∧ b < n 428 15) (h7 : n 432 b = 7) (hf : f = s_fd n (s_wd 21) (g.2.1 b)) (hf0 : 0 ≤ f) (hp : p = s_fd n (s_wd 22) (g.2.1 b)) (hin : y_rin n N I) (hN : N ≤ 8000) (h27 : n 428 27 = 0)
    (H7 : ¬ z_ok g n f p → Q 0 (m_fl n 7 ww)) (H8 : z_ok g n f p → z_run (z_do g n p 0 (z_ns g n f)) I N = none → ∀ n2, z_mf n n2 → Q 0 (m_fl n2 8 ww))
    (H0 : ∀ o, z_ok g n f p → z_run (z_do g n p 0 (z_ns g n f)) I N = some o → ∀ n2, z_mf n n2 → n2 428 37 = o.length → z_at n2 442 o → y_by o → (o.length : Int) ≤ 8000 → Q 0 n2) : xc_m_filters (d + 11) b f ww n Q := by
  have bd := h.1
  unfold s_bd at bd
  have no1 := h.fd (l := s_wd 21) hb h7
  rw [← hf] at no1
  have fr : 0 ≤ f ∧ f < n 428 15 := by rcases no1 with w | w <;> omega
  have no := h.fd (l := s_wd 22) hb h7
  rw [← hp] at no
  have f147 : ∀ (v F x0 : Int), (v = 0 ∨ v = 1) → (v = 1 ↔ z_n1 g n f) → (v = 1 → F = (z_ns g n f).length) → (v = 1 → z_hd n (n 428 15) x0 (z_ns g n f)) → xp_m_filters_147 (d + 10) b ww v F x0 n Q := by
    intro v F x0 hv hv1 hF hx
    refine r_filters_147 (f := f) h hb h7 hp hf0 hv hv1 hF hx (fun ok q hq => ?_) H7
    obtain ⟨ee, hee⟩ : ∃ ee : Int, ee = if p < 0 then 0 else if n 432 p = 6 then 1 else 0 := ⟨_, rfl⟩
    rw [← hee] at hq ⊢
    have hx := hx (hv1.mpr ok.1)
    exact r_filters_460 (d := d + 1) (m := m) (g := g) (f := f) (p := p) (fun y hy => (z_ns_mem h no1 hy).1) (z_ns g n f) [] N I n x0 q h z_mf.rf ok.1 (by omega) no ok.2.2 rfl hin hN h27 hx hq (fun o e2 => H0 o ok e2) (fun e2 => H8 ok e2)
  have n0 : n 432 f ≠ 4 → n 432 f ≠ 6 → z_ns g n f = [] := fun a1 a2 => (if_neg (by omega)).trans ((if_neg a1).trans (if_neg a2))
  -- not right at all
  have bad : ¬ z_n1 g n f → ∀ F x0, xp_m_filters_89 (d + 10) b ww 0 F x0 x0 0 n Q := by
    intro z F x0
    have E : xp_m_filters_147 (d + 10) b ww 0 F x0 n Q := f147 0 F x0 (Or.inl rfl) ⟨fun w => by omega, fun w => absurd w z⟩ (fun w => by omega) (fun w => by omega)
    apply xr_m_filters_89
    refine z_ite (fun _ => ?_) (fun _ => E)
    rw [if_pos rfl]
    exact E
  apply xr_m_filters
  refine ⟨by omega, ?_⟩
  by_cases k4 : n 432 f = 4
  · have ens : z_ns g n f = [f] := (if_neg (by omega)).trans (if_pos k4)
    have hhd : z_hd n (n 428 15) f [f] := ⟨rfl, fr.1, fr.2, trivial⟩
    have en1 : z_n1 g n f ↔ ∀ y ∈ [f], s_nk n y (s_wd 23) ∨ s_nk n y (s_wd 24) := by
      constructor
      · intro z
        rcases z with z | z
        · omega
        · rw [ens] at z; exact z.2
      · intro z
        exact Or.inr ⟨Or.inl k4, by rw [ens]; exact z⟩
    rw [if_pos k4]
    refine ⟨by omega, ?_⟩
    rw [if_pos k4]
    apply xr_m_filters_58
    refine ⟨by omega, ?_⟩
    rw [if_pos k4]
    exact r_filters_89 (d := d + 1) (l := [f]) h (fun z => f147 1 1 f (Or.inr rfl) ⟨fun _ => en1.mpr z, fun _ => rfl⟩ (fun _ => by rw [ens]; rfl) (fun _ => by rw [ens]; exact hhd)) (fun z => f147 0 1 f (Or.inl rfl) ⟨fun w => by omega, fun w => absurd (en1.mp w) z⟩ (fun w => by omega) (fun w => by omega)) (show 1 ≤ 3 by decide) [f] [] f rfl hhd (fun y hy => by cases hy)
  · rw [if_neg k4]
    refine ⟨by omega, ?_⟩
    by_cases k6 : n 432 f = 6
    · have ens : z_ns g n f = g.2.1 f := (if_neg (by omega)).trans ((if_neg k4).trans (if_pos k6))
      obtain ⟨p1, p2, p3, p4⟩ := h.prt no1 (Or.inl ((if_neg (by omega)).trans k6))
      have hhd : z_hd n (n 428 15) (n 436 f) (g.2.1 f) := (h.2.2.2.2 f fr.1 fr.2 (Or.inl k6)).1.1.hd
      rw [if_pos k6]
      refine ⟨by omega, ?_⟩
      by_cases k3 : 3 < n 435 f
      · have z : ¬ z_n1 g n f := fun w => by
          rcases w with w | ⟨w | w, _⟩ <;> omega
        rw [if_pos k3]
        refine ⟨by omega, ?_⟩
        rw [if_neg k4]
        refine ⟨by omega, ?_⟩
        apply xr_m_filters_58
        refine ⟨by omega, ?_⟩
        rw [if_neg k4]
        exact ⟨by omega, bad z _ _⟩
      · have en1 : z_n1 g n f ↔ ∀ y ∈ g.2.1 f, s_nk n y (s_wd 23) ∨ s_nk n y (s_wd 24) := by
          constructor
          · intro z
            rcases z with z | z
            · omega
            · rw [ens] at z; exact z.2
          · intro z
            exact Or.inr ⟨Or.inr ⟨k6, by omega⟩, by rw [ens]; exact z⟩
        rw [if_neg k3]
        refine ⟨by omega, ?_⟩
        rw [if_neg k4]
        refine ⟨by omega, ?_⟩
        apply xr_m_filters_58
        refine ⟨by omega, ?_⟩
        rw [if_neg k4]
        refine ⟨by omega, ?_⟩
        rw [p4]
        exact r_filters_89 (d := d + 1) (l := g.2.1 f) h (fun z => f147 1 _ _ (Or.inr rfl) ⟨fun _ => en1.mpr z, fun _ => rfl⟩ (fun _ => by rw [ens]) (fun _ => by rw [ens]; exact hhd)) (fun z => f147 0 _ _ (Or.inl rfl) ⟨fun w => by omega, fun w => absurd (en1.mp w) z⟩ (fun w => by omega) (fun w => by omega)) (by omega) (g.2.1 f) [] _ rfl hhd (fun y hy => by cases hy)
    · have z : ¬ z_n1 g n f := fun w => by
        rcases w with w | ⟨w | w, _⟩ <;> omega
      rw [if_neg k6]
      refine ⟨by omega, ?_⟩
      rw [if_neg k4]
      refine ⟨by omega, ?_⟩
      apply xr_m_filters_58
      refine ⟨by omega, ?_⟩
      rw [if_neg k4]
      exact ⟨by omega, bad z _ _⟩
/-- decoded bytes come behind the data: what has changed -/
def z_mg (n n' : w_M) : Prop := ∀ i j : Int, ¬ (i = 428 ∧ 37 ≤ j ∧ j ≤ 40) → ¬ (442 ≤ i ∧ i ≤ 450) → ¬ (i = 441 ∧ n 428 34 ≤ j) → n' i j = n i j
theorem r_decode_70 (hT : 0 ≤ n 428 34 ∧ n 428 34 ≤ 49000) (hl : (o.length : Int) ≤ 8000) (hat : z_at n 442 o) (hby : y_by o) (h37 : n 428 37 = o.length) : ∀ (k : Nat) (i : Int) (n' : w_M), 0 ≤ i → i + k = o.length → (∀ a b : Int, ¬ (a = 441 ∧ n 428 34 ≤ b) → n' a b = n a b) → (∀ j, 0 ≤ j → j < i → n' 441 (n 428 34 + j) = o.getD j.toNat 0) →
    (∀ n2 : w_M, (∀ a b : Int, ¬ (a = 441 ∧ n 428 34 ≤ b) → n2 a b = n a b) → (∀ j : Nat, j < o.length → n2 441 (n 428 34 + j) = o.getD j 0) → Q o.length n2) → xp_m_decode_70 d i n' Q := by
  obtain ⟨K, hK⟩ : ∃ K : Int, K = o.length := ⟨_, rfl⟩
  rw [← hK]
  rw [← hK] at hl h37
  intro k
  induction k with
  | zero =>
    intro i n' i0 hi hf hd H
    apply xr_m_decode_70
    rw [hf 428 37 (by omega), h37, if_neg (by omega)]
    exact H n' hf (fun j hj => by have := hd j (by omega) (by omega); rw [Int.toNat_natCast] at this; exact this)
  | succ k ih =>
    intro i n' i0 hi hf hd H
    apply xr_m_decode_70
    rw [hf 428 37 (by omega), h37, if_pos (by omega), hf 428 34 (by omega), hf 442 i (by omega), w_32_id (x := i + 1) (by omega) (by omega), w_32_id (x := n 428 34 + i) (by omega) (by omega), z_get hat i0 (by omega), hby i.toNat (by omega)]
    refine ⟨by omega, by omega, ?_⟩
    refine ih (i + 1) _ (by omega) (by omega) (fun a b q => ?_) (fun j q1 q2 => ?_) H
    · unfold w_up
      rw [if_neg (by omega)]
      exact hf a b q
    · by_cases z : j = i
      · rw [z, w_up_eq]
      · rw [w_up_nb (by omega)]
        exact hd j q1 (by omega)
theorem r_decode_3 (hfr : 0 ≤ fr ∧ 0 ≤ N ∧ fr + N ≤ 8000) (hb : ∀ j, -128 ≤ n 430 j ∧ n 430 j < 128) : ∀ (k : Nat) (i : Int) (n' : w_M), 0 ≤ i → i + k = N → (∀ a b' : Int, a ≠ 442 → n' a b' = n a b') → (∀ j, 0 ≤ j → j < i → n' 442 j = n 430 (fr + j)) →
    (∀ n2 : w_M, (∀ a b' : Int, a ≠ 442 → n2 a b' = n a b') → (∀ j, 0 ≤ j → j < N → n2 442 j = n 430 (fr + j)) → xp_m_decode_3 d b fr N ww N n2 Q) → xp_m_decode_3 d b fr N ww i n' Q := by
  intro k
  induction k with
  | zero =>
    intro i n' i0 hi hf hd H
    have e : i = N := by omega
    rw [e]
    exact H n' hf (fun j q1 q2 => hd j q1 (by omega))
  | succ k ih =>
    intro i n' i0 hi hf hd H
    have := hb (fr + i)
    apply xr_m_decode_3
    rw [if_pos (by omega), w_32_id (x := i + 1) (by omega) (by omega), w_32_id (x := fr + i) (by omega) (by omega), hf 430 _ (by omega), w_8_id (by omega) (by omega)]
    refine ⟨by omega, by omega, ?_⟩
    refine ih (i + 1) _ (by omega) (by omega) (fun a b' q => ?_) (fun j q1 q2 => ?_) H
    · rw [w_up_ne q]; exact hf a b' q
    · by_cases z : j = i
      · rw [z, w_up_eq]
      · rw [w_up_nb z]; exact hd j q1 (by omega)
theorem r_decode (h : s_st g m n) (hb : 0 ≤ b ∧ b < n 428 15) (h7 : n 432 b = 7) (hf : f = s_fd n (s_wd 21) (g.2.1 b)) (hp : p = s_fd n (s_wd 22) (g.2.1 b)) (hfr : 0 ≤ fr ∧ 0 ≤ N ∧ fr + N ≤ 8000) (hI : ∀ i, 0 ≤ i → i < N → n 430 (fr + i) % 256 = I i) (hT : 0 ≤ n 428 34 ∧ n 428 34 ≤ 49000) (h27 : n 428 27 = 0)
    (H7 : ¬ z_ok g n f p → ∀ r n2, z_mf n n2 → Q r (m_fl n2 7 ww)) (H8 : z_ok g n f p → z_run (z_do g n p 0 (z_ns g n f)) I N = none → ∀ r n2, z_mf n n2 → Q r (m_fl n2 8 ww))
    (H0 : ∀ o, z_ok g n f p → z_run (z_do g n p 0 (z_ns g n f)) I N = some o → ∀ n2, z_mg n n2 → (∀ j : Nat, j < o.length → n2 441 (n 428 34 + j) = o.getD j 0) → y_by o → (o.length : Int) ≤ 8000 → Q o.length n2) : xc_m_decode (d + 12) b fr N ww n Q := by
  refine w_C.nm (fun hnm => ?_)
  have hbr : ∀ j, -128 ≤ n 430 j ∧ n 430 j < 128 := fun j => w_ar_r hnm (a := 430) (by decide) s_430 j
  apply xr_m_decode
  refine r_decode_3 hfr hbr N.toNat 0 n (by decide) (by omega) (fun _ _ _ => rfl) (fun j q1 q2 => by omega) (fun n1 f1 d1 => ?_)
  have hm1 : z_mf n (w_up n1 428 37 N) := fun i j q1 q2 => by
    unfold w_up
    rw [if_neg (by omega)]
    exact f1 i j (by omega)
  obtain ⟨n3, hn3⟩ : ∃ n3, n3 = w_up n1 428 37 N := ⟨_, rfl⟩
  apply xr_m_decode_3
  rw [if_neg (Int.lt_irrefl _), ← hn3]
  rw [← hn3] at hm1
  have e37 : n3 428 37 = N := by rw [hn3, w_up_eq]
  have d3 : ∀ j, 0 ≤ j → j < N → n3 442 j = n 430 (fr + j) := fun j q1 q2 => by rw [hn3, w_up_ne (by decide)]; exact d1 j q1 q2
  have h15 : n3 428 15 = n 428 15 := hm1 _ _ (by omega) (by omega)
  have e27 : n3 428 27 = 0 := by rw [hm1 428 27 (by omega) (by omega)]; exact h27
  have hst := hm1.st h
  have hin : y_rin n3 N I := ⟨e37, hfr.2.1, by omega, fun i q1 q2 => by rw [d3 i q1 q2]; exact hI i q1 q2⟩
  have hb3 : 0 ≤ b ∧ b < n3 428 15 := by rw [h15]; exact hb
  have h73 : n3 432 b = 7 := by rw [hm1 432 b (by omega) (by omega)]; exact h7
  have hf3 : f = s_fd n3 (s_wd 21) (g.2.1 b) := by rw [hm1.fd]; exact hf
  have hp3 : p = s_fd n3 (s_wd 22) (g.2.1 b) := by rw [hm1.fd]; exact hp
  have e34 : n3 428 34 = n 428 34 := hm1 _ _ (by omega) (by omega)
  -- the bytes go behind the data
  have fin : ∀ o, z_ok g n f p → z_run (z_do g n p 0 (z_ns g n f)) I N = some o → ∀ n2, z_mf n n2 → n2 428 37 = o.length → z_at n2 442 o → y_by o → (o.length : Int) ≤ 8000 → xp_m_decode_70 (d + 11) 0 n2 Q := by
    intro o ok e n2 hm2 e37 at2 by2 ol
    have e342 : n2 428 34 = n 428 34 := hm2 _ _ (by omega) (by omega)
    refine r_decode_70 (by rw [e342]; exact hT) ol at2 by2 e37 o.length 0 n2 (by decide) (by omega) (fun _ _ _ => rfl) (fun j q1 q2 => by omega) (fun n4 f4 d4 => ?_)
    rw [e342] at f4 d4
    refine H0 o ok e n4 (fun i j q1 q2 q3 => ?_) d4 by2 ol
    rw [f4 i j q3]
    exact hm2 i j q1 q2
  refine r_direct (d := d + 4) hst t_filter hb3 h73 ?_
  rw [← hf3]
  have ok3 : z_ok g n3 f p ↔ z_ok g n f p := by
    have ens : z_ns g n3 f = z_ns g n f := by
      unfold z_ns
      rw [hm1.st5 432 f (by decide) (by decide)]
    unfold z_ok z_n1 z_n2 z_n3 z_ip2
    simp only [hm1.st5 432 _ (by decide) (by decide), ens, hm1.nk, hm1.wh, hm1.pm]
  have ens3 : z_ns g n3 f = z_ns g n f := by
    unfold z_ns
    rw [hm1.st5 432 f (by decide) (by decide)]
  by_cases f0 : f < 0
  · rw [if_pos f0]
    refine r_gd ?_
    rw [if_pos e27, if_neg (by decide)]
    have ens : z_ns g n f = [] := if_pos f0
    have ok : z_ok g n f p := ⟨Or.inl f0, Or.inr (Or.inl f0), fun k hk => by rw [ens] at hk; exact absurd hk (Nat.not_lt_zero _)⟩
    refine fin (z_ls I N) ok (by rw [ens]; rfl) n3 hm1 (by rw [z_ls_len hfr.2.1]; exact e37) (fun i hi => ?_) z_ls_by (by rw [z_ls_len hfr.2.1]; omega)
    have hl := z_ls_len (I := I) hfr.2.1
    have := hbr (fr + i)
    rw [z_ls_get hi, d3 i (by omega) (by omega)]
    exact (z_8 (hI i (by omega) (by omega)) this.1 this.2).symm
  · rw [if_neg f0]
    refine r_filters (d := d) (f := f) (p := p) (N := N) (I := I) hst hb3 h73 hf3 (by omega) hp3 hin (by omega) e27 (fun z => ?_) (fun z e n2 m2 => ?_) (fun o z e n2 m2 e37 at2 by2 ol => ?_)
    · refine r_gd ?_
      have e7 : m_fl n3 7 ww 428 27 = 7 := (m_fl_v e27).1
      rw [e7, if_pos (show (if (7 : Int) = 0 then (1 : Int) else 0) = 0 by decide)]
      exact H7 (fun w => z (ok3.mpr w)) _ n3 hm1
    · refine r_gd ?_
      have e8 : m_fl n2 8 ww 428 27 = 8 := (m_fl_v (by rw [m2 428 27 (by omega) (by omega)]; exact e27)).1
      rw [e8, if_pos (show (if (8 : Int) = 0 then (1 : Int) else 0) = 0 by decide)]
      rw [hm1.do, ens3] at e
      exact H8 (ok3.mp z) e _ n2 (hm1.tr m2)
    · refine r_gd ?_
      rw [m2 428 27 (by omega) (by omega), e27, if_neg (show ¬ (if (0 : Int) = 0 then (1 : Int) else 0) = 0 by decide)]
      rw [hm1.do, ens3] at e
      exact fin o (ok3.mp z) e n2 (hm1.tr m2) e37 at2 by2 ol
end FS
