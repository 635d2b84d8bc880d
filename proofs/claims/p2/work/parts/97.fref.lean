/-! ===== filters: the reference decodes ===== -/
/-- nodes one behind the other, as far as they are asked for -/
def z_hd (n : w_M) (N : Int) : Int → List Int → Prop
  | _, [] => True
  | x, y :: l => x = y ∧ 0 ≤ y ∧ y < N ∧ z_hd n N (n 437 y) l
theorem z_ite {c : Prop} [Decidable c] {P1 P2 : Prop} (h1 : c → P1) (h2 : ¬ c → P2) : if c then P1 else P2 := by
  by_cases q : c
  · rw [if_pos q]; exact h1 q
  · rw [if_neg q]; exact h2 q
section FR
variable {d : Nat} {g : s_g} {m m' n n' n2 : w_M} {Q : Int → w_M → Prop} {N T b f p q k w y x i s c ww fr : Int} {l L o : List Int} {I : Int → Int}
theorem s_ch.hd : ∀ {l : List Int} {x : Int}, s_ch n N x l → z_hd n N x l := by
  intro l
  induction l with
  | nil => intro x _; trivial
  | cons y l ih => intro x h; exact ⟨h.1, h.2.1, h.2.2.1, ih h.2.2.2⟩
theorem z_hd.mf (h : z_mf n n') : ∀ {l : List Int} {x : Int}, z_hd n N x l → z_hd n' N x l := by
  intro l
  induction l with
  | nil => intro x _; trivial
  | cons y l ih => intro x h2; exact ⟨h2.1, h2.2.1, h2.2.2.1, by rw [h 437 y (by omega) (by omega)]; exact ih h2.2.2.2⟩
theorem z_mf.st5 (h : z_mf n n') (a b : Int) (h1 : 432 ≤ a) (h2 : a ≤ 440) : n' a b = n a b := h a b (by omega) (by omega)
theorem z_mf.is (h : z_mf n n') : s_is n' x s l ↔ s_is n x s l := by
  unfold s_is
  simp only [fun b => h.st5 440 b (by decide) (by decide)]
theorem z_mf.nk (h : z_mf n n') : s_nk n' y l ↔ s_nk n y l := by
  unfold s_nk
  rw [h.is, h.st5 432 y (by decide) (by decide), h.st5 435 y (by decide) (by decide), h.st5 436 y (by decide) (by decide)]
theorem z_mf.fd (h : z_mf n n') : ∀ L : List Int, s_fd n' l L = s_fd n l L := by
  intro L
  induction L with
  | nil => rfl
  | cons y L ih =>
    have e : s_is n' (n' 438 y) (n' 439 y) l ↔ s_is n (n 438 y) (n 439 y) l := by
      rw [h.is, h.st5 438 y (by decide) (by decide), h.st5 439 y (by decide) (by decide)]
    by_cases z : s_is n (n 438 y) (n 439 y) l
    · rw [s_fd_y z, s_fd_y (e.mpr z)]
    · rw [s_fd_n z, s_fd_n (fun w => z (e.mp w)), ih]
theorem z_mf.wh (h : z_mf n n') : z_wh g n' q k w = z_wh g n q k w := by
  unfold z_wh
  rw [h.fd, h.st5 432 _ (by decide) (by decide), h.st5 433 _ (by decide) (by decide)]
theorem z_mf.fl (h : z_mf n n') : z_fl n' y = z_fl n y := by
  by_cases z : s_nk n y (s_wd 23)
  · rw [z_fl_1 z, z_fl_1 (h.nk.mpr z)]
  · rw [z_fl_0 z, z_fl_0 (fun w => z (h.nk.mp w))]
theorem z_mf.co (h : z_mf n n') : z_co g n' y q = z_co g n y q := by
  unfold z_co
  rw [h.fl, h.wh, h.wh, h.st5 432 q (by decide) (by decide)]
theorem z_mf.pm (h : z_mf n n') {j : Nat} : z_pm g n' p j = z_pm g n p j := by
  unfold z_pm
  rw [h.st5 432 p (by decide) (by decide)]
theorem z_mf.do (h : z_mf n n') : ∀ (l : List Int) (j : Nat), z_do g n' p j l = z_do g n p j l := by
  intro l
  induction l with
  | nil => intro j; rfl
  | cons y l ih =>
    intro j
    show (z_fl n' y, z_co g n' y (z_pm g n' p j)) :: z_do g n' p (j + 1) l = (z_fl n y, z_co g n y (z_pm g n p j)) :: z_do g n p (j + 1) l
    rw [h.fl, h.pm, h.co, ih]
theorem t_filter : t_s 192 (s_wd 21) := ⟨by decide, by decide, by decide, _, rfl⟩
theorem t_parms : t_s 202 (s_wd 22) := ⟨by decide, by decide, by decide, _, rfl⟩
theorem t_flate : t_s 204 (s_wd 23) := ⟨by decide, by decide, by decide, _, rfl⟩
theorem t_ahex : t_s 206 (s_wd 24) := ⟨by decide, by decide, by decide, _, rfl⟩
theorem t_predictor : t_s 208 (s_wd 25) := ⟨by decide, by decide, by decide, _, rfl⟩
theorem t_columns : t_s 210 (s_wd 26) := ⟨by decide, by decide, by decide, _, rfl⟩
theorem t_colors : t_s 242 (s_wd 27) := ⟨by decide, by decide, by decide, _, rfl⟩
theorem t_bpc : t_s 244 (s_wd 28) := ⟨by decide, by decide, by decide, _, rfl⟩
theorem r_nk (h : s_st g m n) (hs : t_s s l) (hy : s_no n y) (h1 : s_nk n y l → Q 1 n) (h0 : ¬ s_nk n y l → Q 0 n) : xc_m_isName (d + 6) y s n Q := by
  have bd := h.1
  have bd' := bd
  unfold s_bd at bd'
  refine r_isName hs ?_ (fun y0 q => ?_) h1 h0
  · rcases hy with e | e <;> omega
  · rcases hy with e | e
    · omega
    · exact (h.2.1 y e.1 e.2).tx bd (Or.inl q)
theorem r_wholeAt (h : s_st g m n) (hs : t_s s (s_wd k)) (hb : 0 ≤ b ∧ b < n 428 15) (h7 : n 432 b = 7) (hQ : Q (z_wh g n b k w) n) : xc_m_wholeAt (d + 8) b s w n Q := by
  have bd := h.1
  unfold s_bd at bd
  have no := h.fd (l := s_wd k) hb h7
  unfold z_wh at hQ
  apply xr_m_wholeAt
  refine r_direct h hs hb h7 ?_
  by_cases q : s_fd n (s_wd k) (g.2.1 b) < 0
  · rw [if_pos q] at hQ ⊢
    exact hQ
  · rw [if_neg q] at hQ ⊢
    refine ⟨by rcases no with e | e <;> omega, ?_⟩
    by_cases q2 : n 432 (s_fd n (s_wd k) (g.2.1 b)) = 2
    · rw [if_pos q2] at hQ ⊢
      exact ⟨by rcases no with e | e <;> omega, hQ⟩
    · rw [if_neg q2] at hQ ⊢
      exact hQ
theorem r_isPredictor (h : s_st g m n) (hb : 0 ≤ b ∧ b < n 428 15) (h7 : n 432 b = 7) (h1 : z_ip2 g n b → Q 1 n) (h0 : ¬ z_ip2 g n b → Q 0 n) : xc_m_isPredictor (d + 9) b n Q := by
  apply xr_m_isPredictor
  unfold z_ip2 at h1 h0
  refine r_wholeAt h t_predictor hb h7 ?_
  obtain ⟨v1, hv1⟩ : ∃ v, v = z_wh g n b 25 1 := ⟨_, rfl⟩
  obtain ⟨v2, hv2⟩ : ∃ v, v = z_wh g n b 26 1 := ⟨_, rfl⟩
  obtain ⟨v3, hv3⟩ : ∃ v, v = z_wh g n b 27 1 := ⟨_, rfl⟩
  obtain ⟨v4, hv4⟩ : ∃ v, v = z_wh g n b 28 8 := ⟨_, rfl⟩
  rw [← hv1, ← hv2, ← hv3, ← hv4] at h1 h0
  rw [← hv1]
  by_cases c1 : v1 = 1
  · rw [if_pos c1]; exact h1 (Or.inl c1)
  · rw [if_neg c1]
    refine r_wholeAt h t_columns hb h7 ?_
    rw [← hv2]
    by_cases c2 : v1 < 10
    · rw [if_pos c2]; exact h0 (by omega)
    · rw [if_neg c2]
      by_cases c3 : 15 < v1
      · rw [if_pos c3]; exact h0 (by omega)
      · rw [if_neg c3]
        by_cases c4 : v2 < 1
        · rw [if_pos c4]; exact h0 (by omega)
        · rw [if_neg c4]
          by_cases c5 : 200 < v2
          · rw [if_pos c5]; exact h0 (by omega)
          · rw [if_neg c5]
            refine r_wholeAt h t_colors hb h7 ?_
            rw [← hv3]
            by_cases c6 : v3 = 1
            · rw [if_pos c6]
              refine r_wholeAt h t_bpc hb h7 ?_
              rw [← hv4]
              by_cases c7 : v4 = 8
              · rw [if_pos c7]; exact h1 (by omega)
              · rw [if_neg c7]; exact h0 (by omega)
            · rw [if_neg c6]; exact h0 (by omega)
theorem r_gd (h : Q (if n 428 27 = 0 then 1 else 0) n) : xc_m_good (d + 1) n Q := sp_m_good h
/-- a parameter of the k-th filter in the reference: the one at hand -/
def z_pr2 (g : s_g) (n : w_M) (p e x : Int) (j F : Nat) : Prop := (e = 1 ∧ 0 ≤ p ∧ n 432 p = 6 ∧ (g.2.1 p).length = F ∧ z_hd n (n 428 15) x ((g.2.1 p).drop j)) ∨ (e = 0 ∧ (p < 0 ∨ (0 ≤ p ∧ n 432 p ≠ 6)) ∧ x = if p < 0 then -1 else p)
theorem z_pr2.now {e : Int} {j F : Nat} (hn : s_no n p) (h : z_pr2 g n p e x j F) (hj : j < F) : x = z_pm g n p j ∧ s_no n x ∧ (e = 1 → 0 ≤ x ∧ x < n 428 15 ∧ z_pr2 g n p e (n 437 x) (j + 1) F) ∧ (e = 0 → z_pr2 g n p e x (j + 1) F) ∧ (e = 0 ∨ e = 1) := by
  unfold z_pm
  rcases h with ⟨e1, p0, k6, hl, hh⟩ | ⟨e0, hp, ex⟩
  · rw [if_neg (by omega), if_pos k6]
    have hj' : j < (g.2.1 p).length := by omega
    rw [List.drop_eq_getElem_cons hj'] at hh
    obtain ⟨h1, h2, h3, h4⟩ := hh
    have e : (g.2.1 p).getD j (-1) = (g.2.1 p)[j] := by
      rw [List.getD_eq_getElem?_getD, List.getElem?_eq_getElem hj']
      rfl
    rw [e]
    refine ⟨h1, Or.inr ⟨by omega, by omega⟩, fun _ => ⟨by omega, by omega, Or.inl ⟨e1, p0, k6, hl, ?_⟩⟩, fun z => by omega, Or.inr e1⟩
    rw [h1]
    exact h4
  · refine ⟨?_, ?_, fun z => by omega, fun _ => Or.inr ⟨e0, hp, ex⟩, Or.inl e0⟩
    · rw [ex]
      by_cases z : p < 0
      · rw [if_pos z, if_pos z]
      · rw [if_neg z, if_neg z, if_neg (by omega)]
    · rw [ex]
      by_cases z : p < 0
      · rw [if_pos z]; exact Or.inl rfl
      · rw [if_neg z]
        rcases hn with w | w
        · omega
        · exact Or.inr w
theorem z_pr2.mf {e : Int} {j F : Nat} (h : z_mf n n') (h2 : z_pr2 g n p e x j F) : z_pr2 g n' p e x j F := by
  unfold z_pr2 at h2 ⊢
  rw [h.st5 432 p (by decide) (by decide), h 428 15 (by omega) (by omega)]
  rcases h2 with ⟨a1, a2, a3, a4, a5⟩ | z
  · exact Or.inl ⟨a1, a2, a3, a4, a5.mf h⟩
  · exact Or.inr z
/-- the filters are run -/
theorem r_filters_460 (hns : ∀ y ∈ z_ns g n f, 0 ≤ y) {e : Int} : ∀ (suf pre : List Int) (N : Int) (I : Int → Int) (n' : w_M) (x q : Int), s_st g m n → z_mf n n' → z_n1 g n f → ¬ f < 0 → s_no n p → z_n3 g n f p → z_ns g n f = pre ++ suf → y_rin n' N I → N ≤ 8000 → n 428 27 = 0 → z_hd n (n 428 15) x suf → z_pr2 g n p e q pre.length (z_ns g n f).length →
    (∀ o, z_run (z_do g n p pre.length suf) I N = some o → ∀ n2, z_mf n n2 → n2 428 37 = o.length → z_at n2 442 o → y_by o → (o.length : Int) ≤ 8000 → Q 0 n2) → (z_run (z_do g n p pre.length suf) I N = none → ∀ n2, z_mf n n2 → Q 0 (m_fl n2 8 ww)) →
    xp_m_filters_460 (d + 9) ww (z_ns g n f).length x e q pre.length n' Q := by
  intro suf
  induction suf with
  | nil =>
    intro pre N I n' x q h hm hn1 hf hp h3 hl hin hN h27 hx hq H1 H0
    have e : z_ns g n f = pre := by rw [hl, List.append_nil]
    refine w_W.nm (fun hnm => ?_)
    have hr : ∀ j, -128 ≤ n' 442 j ∧ n' 442 j < 128 := fun j => w_ar_r hnm (a := 442) (by decide) s_442 j
    apply xr_m_filters_460
    rw [e, if_neg (by omega)]
    obtain ⟨b1, b2, b3, b4⟩ := hin
    refine H1 (z_ls I N) rfl n' hm (by rw [z_ls_len b2]; exact b1) (fun i hi => ?_) z_ls_by (by rw [z_ls_len b2]; exact hN)
    have hl2 := z_ls_len (I := I) b2
    rw [z_ls_get hi]
    exact (z_8 (b4 i (by omega) (by omega)) (hr _).1 (hr _).2).symm
  | cons y suf ih =>
    intro pre N I n' x q h hm hn1 hf hp h3 hl hin hN h27 hx hq H1 H0
    have hlen2 : (z_ns g n f).length = pre.length + (suf.length + 1) := by rw [hl, List.length_append]; rfl
    have l3 := z_n1_3 hn1
    have hget : (z_ns g n f).getD pre.length 0 = y := by
      rw [hl, List.getD_eq_getElem?_getD, List.getElem?_append_right (Nat.le_refl _), Nat.sub_self]
      rfl
    have hy : y ∈ z_ns g n f := by rw [hl]; exact List.mem_append_right _ (List.mem_cons_self ..)
    obtain ⟨ex, y0, y1, hx2⟩ := hx
    subst ex
    have bd := h.1
    unfold s_bd at bd
    have k3 : z_n3k g n x (z_pm g n p pre.length) := by
      have := h3 pre.length (by omega)
      rw [hget] at this
      exact this
    obtain ⟨eq, qno, qn1, qn0, e01⟩ := hq.now hp (by omega)
    obtain ⟨c, hc⟩ : ∃ c, c = z_co g n x (z_pm g n p pre.length) := ⟨_, rfl⟩
    have rdef : z_run (z_do g n p pre.length (x :: suf)) I N = (z_st (z_fl n x) c I N).bind (fun o => z_run (z_do g n p (pre.length + 1) suf) (z_I o) o.length) := by rw [hc]; rfl
    have len1 : ((pre ++ [x]).length : Int) = pre.length + 1 := t_len _ _
    have len1' : (pre ++ [x]).length = pre.length + 1 := by rw [List.length_append]; rfl
    have e32 : w_32 ((pre.length : Int) + 1) = ((pre ++ [x]).length : Int) := by rw [len1]; exact w_32_id (by omega) (by omega)
    have names : (s_nk n x (s_wd 23) ∨ s_nk n x (s_wd 24)) := by
      rcases hn1 with z | z
      · omega
      · exact z.2 x hy
    -- the next one, all well
    have next : ∀ (o : List Int) (n1 : w_M), z_st (z_fl n x) c I N = some o → z_mf n n1 → n1 428 37 = o.length → z_at n1 442 o → (o.length : Int) ≤ 8000 → xp_m_filters_599 (d + 9) ww (z_ns g n f).length x e q pre.length n1 Q := by
      intro o n1 es hm1 e37 at1 ol
      apply xr_m_filters_599
      have go : ∀ q', z_pr2 g n p e q' (pre.length + 1) (z_ns g n f).length → xp_m_filters_460 (d + 9) ww (z_ns g n f).length (n1 437 x) e q' (w_32 ((pre.length : Int) + 1)) n1 Q := by
        intro q' hq'
        rw [e32, hm1 437 x (by omega) (by omega)]
        refine ih (pre ++ [x]) o.length (z_I o) n1 (n 437 x) q' h hm1 hn1 hf hp h3 (by rw [hl, List.append_assoc]; rfl) (z_rin_o at1 e37 ol) ol h27 hx2 (by rw [len1']; exact hq') (fun o2 e2 => H1 o2 ?_) (fun e2 => H0 ?_)
        · rw [rdef, es, ← len1']
          exact e2
        · rw [rdef, es, ← len1']
          exact e2
      rcases e01 with z | z
      · rw [if_pos z]
        exact ⟨by omega, go q (qn0 z)⟩
      · obtain ⟨w1, w2, w3⟩ := qn1 z
        rw [if_neg (by omega)]
        refine ⟨by omega, by omega, ?_⟩
        rw [hm1 437 q (by omega) (by omega)]
        exact go _ w3
    -- a fault: the rest is not run
    have stop : ∀ n1, z_mf n n1 → z_st (z_fl n x) c I N = none → xc_m_fail (d + 9) 8 ww n1 (fun r1 m1 => xp_m_filters_599 (d + 9) ww (z_ns g n f).length x e q pre.length m1 Q) := by
      intro n1 hm1 es
      refine sp_m_fail ?_
      have h0 := H0 (by rw [rdef, es]; rfl) n1 hm1
      have e27 : m_fl n1 8 ww 428 27 = 8 := (m_fl_v (by rw [hm1 428 27 (by omega) (by omega)]; exact h27)).1
      have end460 : ∀ x' q' F K : Int, xp_m_filters_460 (d + 9) ww F x' e q' K (m_fl n1 8 ww) Q := by
        intro x' q' F K
        apply xr_m_filters_460
        refine z_ite (fun _ => ?_) (fun _ => h0)
        refine r_gd ?_
        rw [e27, if_pos (show (if (8 : Int) = 0 then (1 : Int) else 0) = 0 by decide)]
        exact h0
      apply xr_m_filters_599
      rcases e01 with z | z
      · rw [if_pos z]
        exact ⟨by omega, end460 _ _ _ _⟩
      · obtain ⟨w1, w2, w3⟩ := qn1 z
        rw [if_neg (by omega)]
        exact ⟨by omega, by omega, end460 _ _ _ _⟩
    refine w_W.nm (fun hnm => ?_)
    have hr : ∀ j, -128 ≤ n' 442 j ∧ n' 442 j < 128 := fun j => w_ar_r hnm (a := 442) (by decide) s_442 j
    have e27' : n' 428 27 = 0 := by rw [hm 428 27 (by omega) (by omega)]; exact h27
    have hst := hm.st h
    apply xr_m_filters_460
    rw [if_pos (by omega)]
    refine r_gd ?_
    rw [if_pos e27', if_neg (by decide)]
    refine r_nk hst t_flate (Or.inr ⟨y0, by rw [hm 428 15 (by omega) (by omega)]; exact y1⟩) (fun zf => ?_) (fun zf => ?_)
    · -- inflate
      have zf := hm.nk.mp zf
      have ef := z_fl_1 zf
      rw [ef] at next stop
      rw [if_neg (by decide)]
      have bad : ∀ n1, z_mf n n1 → z_st 1 c I N = none → xp_m_filters_516 (d + 9) ww (z_ns g n f).length x e q pre.length 1 0 n1 Q := by
        intro n1 hm1 es
        apply xr_m_filters_516
        rw [if_pos rfl, if_pos rfl]
        exact stop n1 hm1 es
      refine sp_m_inflate (d := d + 4) hin hr (fun o z by1 n1 f1 e38 at1 => ?_) (fun z n1 f1 => ?_)
      · rw [if_neg (by decide), e38]
        have ol := y_zl_l z
        have hm1 := hm.tr f1.zmf
        have est : z_st 1 c I N = if 0 < c then z_pr (z_I o) o.length c else some o := by
          unfold z_st
          rw [if_neg (by decide), z_zo_s z]
          show (if (1 : Int) ≠ 0 ∧ 0 < c then _ else _) = _
          by_cases z : 0 < c
          · rw [if_pos ⟨by decide, z⟩, if_pos z]
          · rw [if_neg (fun w : (1 : Int) ≠ 0 ∧ 0 < c => z w.2), if_neg z]
        refine r_take2 at1 by1 ol (fun n2 f2 e37 at2 => ?_)
        have hm2 : z_mf n n2 := fun a b q1 q2 => by rw [f2 a b (by omega) (by omega)]; exact hm1 a b q1 q2
        have hst2 := hm2.st h
        have plain : c = 0 → xp_m_filters_599 (d + 9) ww (z_ns g n f).length x e q pre.length n2 Q := fun z0 => next o n2 (by rw [est, if_neg (by omega)]) hm2 e37 at2 ol
        apply xr_m_filters_516
        rw [if_neg (by decide), if_neg (by decide)]
        by_cases q0 : q < 0
        · rw [if_pos q0, if_neg (by decide)]
          refine plain ?_
          rw [hc, ← eq]
          exact if_pos (Or.inr (Or.inl q0))
        · rw [if_neg q0]
          have qn : 0 ≤ q ∧ q < n 428 15 := by
            rcases qno with w | w
            · omega
            · exact w
          refine ⟨by omega, ?_⟩
          rw [hm2 432 q (by omega) (by omega)]
          by_cases q7 : n 432 q = 7
          · rw [if_pos q7]
            have qn2 : 0 ≤ q ∧ q < n2 428 15 := by rw [hm2 428 15 (by omega) (by omega)]; exact qn
            have q72 : n2 432 q = 7 := by rw [hm2 432 q (by omega) (by omega)]; exact q7
            refine r_wholeAt hst2 t_predictor qn2 q72 ?_
            rw [hm2.wh]
            by_cases c1 : z_wh g n q 25 1 < 10
            · rw [if_pos c1, if_neg (by decide)]
              refine plain ?_
              rw [hc, ← eq]
              exact if_pos (Or.inr (Or.inr (Or.inr c1)))
            · rw [if_neg c1]
              refine r_wholeAt hst2 t_columns qn2 q72 ?_
              rw [hm2.wh]
              have ec : c = z_wh g n q 26 1 := by
                rw [hc, ← eq]
                exact if_neg (by rw [ef]; omega)
              have ip : z_ip2 g n q := by
                rw [← eq] at k3
                rcases k3 with w | w | w
                · omega
                · omega
                · exact w.2 zf
              unfold z_ip2 at ip
              have cr : 1 ≤ c ∧ c ≤ 200 := by omega
              rw [← ec]
              rw [if_pos (by omega)] at est
              refine w_C.nm (fun hnm2 => ?_)
              have hr2 : ∀ j, -128 ≤ n2 442 j ∧ n2 442 j < 128 := fun j => w_ar_r hnm2 (a := 442) (by decide) s_442 j
              refine r_unpredict (d := d + 6) (N := o.length) (I := z_I o) cr ol (z_rin_o at2 e37 ol) hr2 (fun o3 e3 l3 by3 n3 f3 e38 at3 => ?_) (fun e3 n3 f3 => ?_)
              · rw [if_neg (by decide), e38]
                refine r_take2 at3 by3 (by omega) (fun n4 f4 e37 at4 => ?_)
                rw [if_neg (by decide)]
                exact next o3 n4 (est.trans e3) (fun a b q1 q2 => by rw [f4 a b (by omega) (by omega)]; exact (hm2.tr f3.zmf) a b q1 q2) e37 at4 (by omega)
              · rw [if_pos rfl, if_pos rfl]
                exact stop n3 (hm2.tr f3.zmf) (est.trans e3)
          · rw [if_neg q7, if_neg (by decide)]
            refine plain ?_
            rw [hc, ← eq]
            exact if_pos (Or.inr (Or.inr (Or.inl q7)))
      · rw [if_pos rfl]
        refine bad n1 (hm.tr f1.zmf) ?_
        unfold z_st
        rw [if_neg (by decide), z_zo_n z]
        rfl
    · -- hexes
      have zf : ¬ s_nk n x (s_wd 23) := fun w => zf (hm.nk.mpr w)
      have ef := z_fl_0 zf
      rw [ef] at next stop
      rw [if_pos rfl]
      refine r_unhex (d := d + 6) hin hr (fun o z l2 by1 n1 f1 e38 at1 => ?_) (fun z n1 f1 => ?_)
      · rw [if_neg (by decide), e38]
        have b2 := hin.2.1
        have ol : (o.length : Int) ≤ 8000 := by omega
        refine r_take2 at1 by1 ol (fun n2 f2 e37 at2 => ?_)
        have hm2 : z_mf n n2 := fun a b q1 q2 => by rw [f2 a b (by omega) (by omega)]; exact (hm.tr f1.zmf) a b q1 q2
        apply xr_m_filters_516
        rw [if_neg (by decide), if_pos rfl, if_neg (by decide)]
        exact next o n2 (z_st_0 z) hm2 e37 at2 ol
      · rw [if_pos rfl]
        apply xr_m_filters_516
        rw [if_pos rfl, if_pos rfl]
        exact stop n1 (hm.tr f1.zmf) (z_st_0n z)
end FR
