/-! ===== the accessors: page ===== -/
/-- a page's way up: objects that own rightly -/
def d_chn (g : s_g) (n : w_M) : Nat → Int → Prop
  | 0, x => x = 0
  | f + 1, x => x = 0 ∨ (t_dk n x ∧ t_ow g n (n 455 x) ∧ d_chn g n f (n 469 x))
/-- the pages, alike -/
def d_tr (g : s_g) (m n : w_M) : Prop := (∀ x, 0 ≤ x → x < 200 → m 401 x = n 469 x) ∧ m 399 7 = n 428 84 ∧ (0 ≤ n 428 84 ∧ n 428 84 ≤ 60) ∧
  (∀ k, 0 ≤ k → k < n 428 84 → m 400 k = n 468 k ∧ t_dk n (n 468 k) ∧ d_chn g n 21 (n 468 k) ∧ 0 ≤ t_at g n 8 21 (n 468 k) ∧ (0 ≤ t_ct g n (n 455 (n 468 k)) ∧ t_ct g n (n 455 (n 468 k)) ≤ 40000)) ∧ m 361 0 = 0
section AG
variable {d e f : Nat} {g g' : s_g} {m m' m0 m1 m2 n n' n0 n1 n2 : w_M} {Q R : Int → w_M → Prop} {k x y z i j a b v r w l : Int}
theorem d_chn.ch : ∀ {f : Nat} {x : Int}, d_chn g n f x → t_ch n f x := by
  intro f
  induction f with
  | zero => intro x h; exact h
  | succ f ih =>
    intro x h
    rcases h with h | ⟨h1, h2, h3⟩
    · exact Or.inl h
    · exact Or.inr ⟨h1, ih h3⟩
theorem d_chn.at : ∀ {f : Nat} {x : Int}, d_chn g n f x → 0 ≤ t_at g n k f x → ∃ y, t_dk n y ∧ t_ow g n (n 455 y) ∧ t_at g n k f x = s_fd n (s_wd k) (g.2.1 (n 455 y)) ∧ ¬ t_no n (o_en g n (n 455 y) k) := by
  intro f
  induction f with
  | zero =>
    intro x h h0
    exfalso
    have : t_at g n k 0 x = -1 := rfl
    omega
  | succ f ih =>
    intro x h h0
    rcases h with h | ⟨h1, h2, h3⟩
    · exfalso
      rw [h, t_at_0] at h0
      omega
    · have x0 : x ≠ 0 := by have := h1.1.1; omega
      by_cases q : t_no n (o_en g n (n 455 x) k)
      · rw [t_at_y x0 q] at h0 ⊢
        exact ih h3 h0
      · rw [t_at_n x0 q]
        exact ⟨x, h1, h2, rfl, q⟩
/-- from the tree that was read -/
theorem t_cm.chn (hn : ∀ y, 0 ≤ y → y < 200 → t_isN g n y → t_nd g n y) (hl : n 428 60 ≤ 200) : ∀ (f : Nat) (x : Int), t_cm n f x → (x = 0 ∨ t_isN g n x) → d_chn g n f x := by
  intro f
  induction f with
  | zero => intro x h _; exact h
  | succ f ih =>
    intro x h hx
    rcases h with h | ⟨h1, h2, h3⟩
    · exact Or.inl h
    · rcases hx with hx | hx
      · exact Or.inl hx
      · have rg := h1.rg hl
        have nd := hn x rg.1 rg.2.1 hx
        exact Or.inr ⟨⟨h1.1, h1.2.1⟩, nd.1, ih _ h3 nd.2.2.2.1⟩
theorem t_RT.tree (h : t_RT g m n) (hl : n 428 60 ≤ 200) (h0 : m 361 0 = 0) : d_tr g m n := by
  obtain ⟨⟨a1, a2, a3, a4, a5, a6, a7⟩, b1, b2, b3, b4, b5, ⟨c1, c2⟩, c3, c4, c5⟩ := h
  refine ⟨fun x q1 q2 => (a2 x q1 q2).1, a3, a4, fun k q1 q2 => ?_, h0⟩
  obtain ⟨p1, p2, p3, p4, p5, p6, p7⟩ := (c3 k q1 q2).1
  refine ⟨a5 k q1 q2, ⟨p1.1, p1.2.1⟩, ?_, p6, p7⟩
  rcases p4 with z | ⟨z1, z2, z3⟩
  · exact Or.inl z
  · exact Or.inr ⟨⟨p1.1, p1.2.1⟩, p3, t_cm.chn c5 hl 20 _ z3 (Or.inr p5)⟩
/- what stands in a box -/
theorem d_chn.box (h : d_chn g n f x) (h0 : 0 ≤ t_at g n 8 f x) : t_bx g n (o_re n (t_at g n 8 f x)) := by
  obtain ⟨y, y1, y2, y3, y4⟩ := h.at h0
  rw [y3]
  exact y2.1.resolve_left y4
theorem d_chn.rot (h : d_chn g n f x) (h0 : 0 ≤ t_at g n 10 f x) : n 432 (o_re n (t_at g n 10 f x)) = 2 := by
  obtain ⟨y, y1, y2, y3, y4⟩ := h.at h0
  rw [y3]
  exact (y2.2.2.resolve_left y4).1
theorem o_upn (hz : 0 ≤ z) : o_up g z = g.1 z := if_neg (by omega)
theorem s_upn (hz : 0 ≤ z) : s_up g.1 z = g.1 z := if_neg (by omega)
theorem a_units (h : o_I g m n) (hz : z < n 428 15) (hn : t_nu n z) : f_st_units m (o_up g z) = f_m_unitsOf n z ∧ k_m_unitsOf n z := by
  obtain ⟨z0, z1⟩ := hn
  obtain ⟨b1, b2, b3, b4, b5, b6, b7, nd⟩ := a_nd h ⟨z0, hz⟩
  have e1 : m 361 (g.1 z) = n 433 z := nd.2.2.2.2.2.1 (by omega)
  unfold f_st_units f_m_unitsOf k_m_unitsOf
  rw [o_upn z0, b1, b2, e1, Int.mul_comm 65536]
  exact ⟨rfl, ⟨z0, b7⟩, ⟨z0, b7⟩⟩
theorem r_p65 : ∀ (K : Nat) (L : List Int) (x j : Int), s_ch n (n 428 15) x L → n 428 15 ≤ 40000 → j + K = w → 0 ≤ j → w ≤ 40000 → K < L.length → xp_m_page_65 d w (L.getD K (-1)) w n Q → xp_m_page_65 d w x j n Q := by
  intro K
  induction K with
  | zero =>
    intro L x j hc hN hj j0 hi hK hQ
    cases L with
    | nil => exact absurd hK (Nat.lt_irrefl 0)
    | cons y L =>
      obtain ⟨c1, c2⟩ := hc
      have e1 : j = w := by omega
      rw [e1, c1]
      exact hQ
  | succ K ih =>
    intro L x j hc hN hj j0 hi hK hQ
    cases L with
    | nil => exact absurd hK (Nat.not_lt_zero _)
    | cons y L =>
      obtain ⟨c1, c2, c3, c4⟩ := hc
      apply xr_m_page_65
      rw [if_pos (by omega), w_32_id (x := j + 1) (by omega) (by omega), c1]
      refine ⟨by omega, ih L (n 437 y) (j + 1) c4 hN (by omega) (by omega) hi ?_ hQ⟩
      have := hK
      simp only [List.length_cons] at this
      omega
/-- the corner w of a page's box -/
theorem a_corner (h : o_I g m n) (hx : d_chn g n 21 x) (h0 : 0 ≤ t_at g n 8 21 x) (hw : 1 ≤ w ∧ w ≤ 4) (b : Int) (hb : b = o_re n (t_at g n 8 21 x)) (u : Int) (hu : u = (g.2.1 b).getD (w - 1).toNat (-1)) :
    (0 ≤ b ∧ b < n 428 15 ∧ n 432 b = 6) ∧ (w - 1).toNat < (g.2.1 b).length ∧ (0 ≤ u ∧ u < n 428 15) ∧ t_nu n (o_re n u) ∧ o_re n u < n 428 15 := by
  obtain ⟨c1, c2, c3⟩ := hx.box h0
  rw [← hb] at c1 c2 c3
  have at1 := t_at_no (k := 8) h 21 x hx.ch
  have b0 : 0 ≤ b := by
    by_cases q : b < 0
    · exact absurd (Or.inl (by rw [← hb]; exact q)) (at1.2 h0)
    · omega
  have br := o_re_no h at1.1
  rw [← hb] at br
  have br : 0 ≤ b ∧ b < n 428 15 := by rcases br with z | z <;> omega
  obtain ⟨⟨l1, l2, l3, l4⟩, _⟩ := h.1.2.2.2.2 b br.1 br.2 (Or.inl c1)
  have hK : (w - 1).toNat < (g.2.1 b).length := by omega
  have um : u ∈ g.2.1 b := by
    rw [hu, List.getD_eq_getElem?_getD, List.getElem?_eq_getElem hK]
    exact List.getElem_mem hK
  have ur := l1.mem u um
  have nu := c3 u um
  refine ⟨⟨br.1, br.2, c1⟩, hK, ur, nu, ?_⟩
  have := o_re_no h (y := u) (Or.inr ur)
  have n0 := nu.1
  rcases this with z | z <;> omega
theorem c_corner (h : o_I g m n) (hA : ∀ x, 0 ≤ x → x < 200 → m 401 x = n 469 x) (hx : d_chn g n 21 x) (h0 : 0 ≤ t_at g n 8 21 x) (hw : 1 ≤ w ∧ w ≤ 4) (hQ : Q (f_m_unitsOf n (o_re n ((g.2.1 (o_re n (t_at g n 8 21 x))).getD (w - 1).toNat (-1)))) m) :
    xc_tr_attribute (d + 4) x 8 m (fun r3 m3 => xc_ta_value (d + 4) r3 m3 (fun r4 m4 => xc_st_part (d + 4) r4 (w_32 (w - 1)) m4 (fun r5 m5 => xc_ta_value (d + 4) r5 m5 (fun r6 m6 => xc_st_units (d + 4) r6 m6 Q)))) := by
  obtain ⟨b, hb⟩ : ∃ b, b = o_re n (t_at g n 8 21 x) := ⟨_, rfl⟩
  obtain ⟨u, hu⟩ : ∃ u, u = (g.2.1 b).getD (w - 1).toNat (-1) := ⟨_, rfl⟩
  obtain ⟨⟨b0, b1, b6⟩, hK, ur, nu, zr⟩ := a_corner h hx h0 hw b hb u hu
  rw [← hb, ← hu] at hQ
  refine c_attribute (d := d) h (by decide) hA hx.ch ?_
  refine c_value (d := d + 1) h (t_at_no (k := 8) h 21 x hx.ch).1 ?_
  rw [← hb, o_upn b0, ← s_upn b0, w_32_id (by omega) (by omega)]
  refine sp_st_part (d := d + 2) h.1 (Or.inr ⟨b0, b1⟩) (by unfold s_kd; rw [if_neg (by omega)]; exact Or.inl b6) (by omega) ?_
  rw [if_neg (by omega), ← hu]
  refine c_value (d := d + 1) h (Or.inr ur) ?_
  refine sp_st_units (d := d + 2) ?_
  rw [(a_units h zr nu).1]
  exact hQ
theorem r_corner (h : o_I g m n) (hx : d_chn g n 21 x) (h0 : 0 ≤ t_at g n 8 21 x) (hw : 1 ≤ w ∧ w ≤ 4) (hQ : ∀ n2, e80 n n2 → Q (f_m_unitsOf n (o_re n ((g.2.1 (o_re n (t_at g n 8 21 x))).getD (w - 1).toNat (-1)))) n2) :
    xc_m_inherited (d + 10) x 240 n (fun r4 m4 => ((0 : Int) ≤ r4 ∧ r4 < 40000) ∧ (xp_m_page_65 (d + 10) w (m4 436 r4) 1 m4 Q)) := by
  obtain ⟨b, hb⟩ : ∃ b, b = o_re n (t_at g n 8 21 x) := ⟨_, rfl⟩
  obtain ⟨u, hu⟩ : ∃ u, u = (g.2.1 b).getD (w - 1).toNat (-1) := ⟨_, rfl⟩
  obtain ⟨⟨b0, b1, b6⟩, hK, ur, nu, zr⟩ := a_corner h hx h0 hw b hb u hu
  rw [← hb, ← hu] at hQ
  refine r_inherited (d := d) h e80.rf t_mMediaBox hx.ch (fun n2 e2 => ?_)
  have h2 := e80.I h e2
  have f15 : n2 428 15 = n 428 15 := e2 _ _ (by decide)
  have bd := h.bd
  rw [← hb]
  refine ⟨by omega, ?_⟩
  have l1 := (h2.1.2.2.2.2 b b0 (by omega) (Or.inl (by rw [e2 _ _ (by omega)]; exact b6))).1.1
  refine r_p65 (w - 1).toNat (g.2.1 b) _ 1 l1 (by omega) (by omega) (by decide) (by omega) hK ?_
  rw [← hu]
  apply xr_m_page_65
  rw [if_neg (by omega)]
  refine r_resolve2 (d := d + 7) h e2 (Or.inr ur) (fun n3 e3 _ => ?_)
  have ku := (a_units h zr nu).2
  refine sp_m_unitsOf (d := d + 9) ku ?_
  have : f_m_unitsOf n3 (o_re n u) = f_m_unitsOf n (o_re n u) := by
    unfold f_m_unitsOf
    rw [e3 432 _ (by omega), e3 433 _ (by omega)]
  rw [this]
  exact hQ n3 e3
theorem s_page (h : d_ac g m n) (ht : n 428 6 = 1 → d_tr g m n) : ∃ r, (∀ X : Int → w_M → Prop, X r m → xc_x_page (d + 6) k w m X) ∧ xc_m_page (e + 12) k w n (fun r' n1 => r' = r ∧ e80 n n1) := by
  rcases h with ⟨h1, h2, h3⟩ | ⟨h1, h2, oI, cu⟩
  · refine ⟨-1, fun X hX => ?_, ?_⟩
    · apply xr_x_page
      rw [if_pos h1]
      exact hX
    · apply xr_m_page
      rw [if_pos h2]
      exact ⟨rfl, e80.rf⟩
  obtain ⟨t1, t2, t3, t4, t5⟩ := ht h2
  by_cases hk : 0 ≤ k ∧ k < n 428 84
  · obtain ⟨p1, p2, p3, p4, p5⟩ := t4 k hk.1 hk.2
    have hh : f_tr_has m k = 1 := by
      unfold f_tr_has
      rw [if_neg (by omega), if_pos (by omega), if_pos (by omega)]
    have hip : f_m_isPage n k = 1 := by
      unfold f_m_isPage
      rw [if_neg (by omega), if_neg (by omega), if_pos hk.2]
    obtain ⟨x, hx⟩ : ∃ x, x = n 468 k := ⟨_, rfl⟩
    rw [← hx] at p1 p2 p3 p4 p5
    have n10 : ¬ (1 : Int) = 0 := by decide
    have inC : ∀ X : Int → w_M → Prop, (if w = 0 then X x m else if 1 ≤ w ∧ w ≤ 4 then xc_tr_attribute (d + 5) x 8 m (fun r3 m3 => xc_ta_value (d + 5) r3 m3 (fun r4 m4 => xc_st_part (d + 5) r4 (w_32 (w - 1)) m4 (fun r5 m5 => xc_ta_value (d + 5) r5 m5 (fun r6 m6 => xc_st_units (d + 5) r6 m6 X))))
        else if w = 5 then xc_tr_attribute (d + 5) x 10 m (fun r m1 => xc_ta_value (d + 5) r m1 (fun r m1 => xc_st_oneOf (d + 5) r m1 X)) else if w = 6 then xc_tr_contentBytes (d + 5) x m X else X 0 m) → xc_x_page (d + 6) k w m X := fun X hX => by
      apply xr_x_page
      rw [if_neg (by omega)]
      refine sp_tr_has (d := d + 4) ?_
      rw [hh, if_neg n10]
      refine sp_tr_leafAt (d := d + 3) (by unfold k_tr_leafAt; rw [hh, if_neg n10]; omega) ?_
      rw [show f_tr_leafAt m k = x by unfold f_tr_leafAt; rw [hh, if_neg n10]; exact p1]
      by_cases w0 : w = 0
      · rw [if_pos w0] at hX ⊢; exact hX
      · rw [if_neg w0] at hX ⊢
        by_cases w1 : w = 1
        · rw [if_pos (by omega)] at hX; rw [if_pos w1]; exact hX
        · rw [if_neg w1]
          by_cases w2 : w = 2
          · rw [if_pos (by omega)] at hX; rw [if_pos w2]; exact hX
          · rw [if_neg w2]
            by_cases w3 : w = 3
            · rw [if_pos (by omega)] at hX; rw [if_pos w3]; exact hX
            · rw [if_neg w3]
              by_cases w4 : w = 4
              · rw [if_pos (by omega)] at hX; rw [if_pos w4]; exact hX
              · rw [if_neg w4]
                rw [if_neg (show ¬ (1 ≤ w ∧ w ≤ 4) by omega)] at hX
                exact hX
    have inR : ∀ X : Int → w_M → Prop, ¬ w < 0 → ¬ 6 < w → (if w = 0 then X x n else if 4 < w then (if w = 5 then (xc_m_inherited (e + 11) x 258 n (fun r2 m2 => if r2 < 0 then (X 0 m2) else (((0 : Int) ≤ r2 ∧ r2 < 40000) ∧ (X (m2 433 r2) m2)))) else (xc_m_contentsOf (e + 11) x n X)) else (xc_m_inherited (e + 11) x 240 n (fun r4 m4 => ((0 : Int) ≤ r4 ∧ r4 < 40000) ∧ (xp_m_page_65 (e + 11) w (m4 436 r4) 1 m4 X)))) → xc_m_page (e + 12) k w n X := fun X q1 q2 hX => by
      apply xr_m_page
      rw [if_neg (by omega)]
      refine sp_m_isPage (d := e + 10) ?_
      rw [hip, if_neg n10, if_neg q1, if_neg q2, ← hx]
      exact ⟨by omega, hX⟩
    by_cases q1 : w < 0 ∨ 6 < w
    · refine ⟨0, fun X hX => inC X ?_, ?_⟩
      · rw [if_neg (by omega), if_neg (by omega), if_neg (by omega), if_neg (by omega)]
        exact hX
      · apply xr_m_page
        rw [if_neg (by omega)]
        refine sp_m_isPage (d := e + 10) ?_
        rw [hip, if_neg n10]
        by_cases q2 : w < 0
        · rw [if_pos q2]; exact ⟨rfl, e80.rf⟩
        · rw [if_neg q2, if_pos (by omega)]; exact ⟨rfl, e80.rf⟩
    by_cases w0 : w = 0
    · refine ⟨x, fun X hX => inC X (by rw [if_pos w0]; exact hX), inR _ (by omega) (by omega) ?_⟩
      rw [if_pos w0]
      exact ⟨rfl, e80.rf⟩
    by_cases w4 : 1 ≤ w ∧ w ≤ 4
    · refine ⟨_, fun X hX => inC X (by rw [if_neg w0, if_pos w4]; exact c_corner (d := d + 1) oI t1 p3 p4 w4 hX), inR _ (by omega) (by omega) ?_⟩
      rw [if_neg w0, if_neg (by omega)]
      exact r_corner (d := e + 1) oI p3 p4 w4 (fun n2 e2 => ⟨rfl, e2⟩)
    by_cases w5 : w = 5
    · obtain ⟨t, ht⟩ : ∃ t, t = t_at g n 10 21 x := ⟨_, rfl⟩
      have at1 := t_at_no (k := 10) oI 21 x p3.ch
      have rot := p3.rot
      rw [← ht] at at1 rot
      by_cases t0 : 0 ≤ t
      · have nn := at1.2 t0
        have rr := o_re_no oI at1.1
        have r0 : 0 ≤ o_re n t ∧ o_re n t < n 428 15 := by
          rcases rr with z | z
          · exact absurd (Or.inl (by omega)) nn
          · exact z
        obtain ⟨b1, b2, b3, b4, b5, b6, b7, nd⟩ := a_nd oI r0
        refine ⟨n 433 (o_re n t), fun X hX => inC X ?_, inR _ (by omega) (by omega) ?_⟩
        · rw [if_neg w0, if_neg w4, if_pos w5]
          refine c_attribute (d := d + 1) oI (by decide) t1 p3.ch ?_
          rw [← ht]
          refine c_value (d := d + 2) oI at1.1 ?_
          rw [o_upn r0.1]
          refine sp_st_oneOf (d := d + 4) ?_
          rw [b2, nd.2.2.2.2.2.1 (by have := rot t0; omega)]
          exact hX
        · rw [if_neg w0, if_pos (by omega), if_pos w5]
          refine r_inherited (d := e + 1) oI e80.rf t_mRotate p3.ch (fun n2 e2 => ?_)
          rw [← ht, if_neg (by omega)]
          exact ⟨⟨r0.1, b7⟩, e2 _ _ (by omega), e2⟩
      · have tn : t = -1 := by rcases at1.1 with z | z <;> omega
        have rn : o_re n t = -1 := by
          unfold o_re
          rw [o_rs_n (by omega)]
        refine ⟨0, fun X hX => inC X ?_, inR _ (by omega) (by omega) ?_⟩
        · rw [if_neg w0, if_neg w4, if_pos w5]
          refine c_attribute (d := d + 1) oI (by decide) t1 p3.ch ?_
          rw [← ht]
          refine c_value (d := d + 2) oI at1.1 ?_
          rw [rn, show o_up g (-1) = 0 from if_pos (by decide)]
          refine sp_st_oneOf (d := d + 4) ?_
          have bd := oI.bd
          rw [f_one_v ⟨by decide, by omega⟩ bd.2.1.2, t5]
          exact hX
        · rw [if_neg w0, if_pos (by omega), if_pos w5]
          refine r_inherited (d := e + 1) oI e80.rf t_mRotate p3.ch (fun n2 e2 => ?_)
          rw [← ht, rn, if_pos (by decide)]
          exact ⟨rfl, e2⟩
    · refine ⟨t_ct g n (n 455 x), fun X hX => inC X ?_, inR _ (by omega) (by omega) ?_⟩
      · rw [if_neg w0, if_neg w4, if_neg w5, if_pos (by omega)]
        apply xr_tr_contentBytes
        refine c_gather0 (d := d) oI p2 ?_
        rw [show max 0 (t_ct g n (n 455 x)) = t_ct g n (n 455 x) by omega]
        exact hX
      · rw [if_neg w0, if_pos (by omega), if_neg w5]
        exact r_contentsOf (d := e + 3) oI e80.rf p2 (fun n2 e2 => ⟨rfl, e2⟩)
  · refine ⟨0, fun X hX => ?_, ?_⟩
    · apply xr_x_page
      rw [if_neg (by omega)]
      refine sp_tr_has (d := d + 4) ?_
      rw [show f_tr_has m k = 0 by
        unfold f_tr_has
        by_cases q : k < 0
        · rw [if_pos q]
        · rw [if_neg q, if_neg (by omega)], if_pos rfl]
      exact hX
    · apply xr_m_page
      rw [if_neg (by omega)]
      refine sp_m_isPage (d := e + 10) ?_
      rw [show f_m_isPage n k = 0 by
        unfold f_m_isPage
        rw [if_neg (by omega)]
        by_cases q : k < 0
        · rw [if_pos q]
        · rw [if_neg q, if_neg (by omega)], if_pos rfl]
      exact ⟨rfl, e80.rf⟩
end AG
