/-! ===== the tree of pages: nodes and pages are met, both sides ===== -/
section OE
variable {d c : Nat} {g g' : s_g} {m m' m0 m1 m2 n n' n0 n1 n2 : w_M} {Q R : Int → w_M → Prop} {p k v x y z r b i l t s a u : Int} {w : List Int}
theorem t_ty_not (h : t_ty g n x 3) : ¬ t_ty g n x 4 := by
  intro h2
  have e1 := h.2.2.1
  have e2 := h2.2.2.1
  have l1 : ((s_wd 3).length : Int) = 5 := by decide
  have l2 : ((s_wd 4).length : Int) = 4 := by decide
  omega
/-- what a visit comes to -/
def t_V (c : Nat) (g : s_g) (x u deep : Int) (m n n1 : w_M) : Prop := ∃ r m1, (∀ X : Int → w_M → Prop, X r m1 → xc_tr_visit c x u deep m X) ∧ t_cf m m1 ∧ t_mf n n1 ∧ ((r = -1 ∧ m1 376 6 ≠ 0 ∧ n1 428 27 ≠ 0) ∨ (tr_T g m1 n1 ∧ r = n1 428 84 - n 428 84 ∧ t_F g n n1 x ∧ n 470 x ≠ 1 ∧ n1 470 x = 1 ∧ n1 469 x = u ∧ (u = 0 → t_isN g n1 x)))
theorem tr_T.mark (h : tr_T g m n) (hx : 0 ≤ x ∧ x < 200) : tr_T g (w_up (w_up m 402 x 1) 401 x u) (w_up (w_up n 470 x 1) 469 x u) ∧ t_cf m (w_up (w_up m 402 x 1) 401 x u) ∧ t_mf n (w_up (w_up n 470 x 1) 469 x u) := by
  obtain ⟨a1, a2, a3, a4, a5, a6, a7⟩ := h
  have c1 : t_cf m (w_up (w_up m 402 x 1) 401 x u) := fun i j q1 q2 q3 => by rw [l_up (by omega), l_up (by omega)]
  have c2 : t_mf n (w_up (w_up n 470 x 1) 469 x u) := fun i j q1 q2 => by rw [l_up (by omega), l_up (by omega)]
  refine ⟨⟨t_mf.I a1 c1 c2, fun y y0 y1 => ?_, ?_, ?_, fun k k0 k1 => ?_, ?_, ?_⟩, c1, c2⟩
  · rw [w_up_ne (a := 402) (by decide), w_up_ne (a := 470) (by decide)]
    by_cases q : y = x
    · rw [q, w_up_eq, w_up_eq, w_up_eq, w_up_eq]
      exact ⟨rfl, rfl⟩
    · rw [w_up_nb q, w_up_ne (by decide), w_up_nb q, w_up_ne (by decide), w_up_nb q, w_up_nb q]
      exact a2 y y0 y1
  · rw [w_up_ne (by decide), w_up_ne (by decide), w_up_ne (by decide), w_up_ne (by decide)]; exact a3
  · rw [w_up_ne (by decide), w_up_ne (by decide)]; exact a4
  · rw [w_up_ne (by decide), w_up_ne (by decide)] at k1
    rw [w_up_ne (by decide), w_up_ne (by decide), w_up_ne (by decide), w_up_ne (by decide)]
    exact a5 k k0 k1
  · rw [w_up_ne (by decide), w_up_ne (by decide)]; exact a6
  · rw [w_up_ne (by decide), w_up_ne (by decide)]; exact a7
/-- the reference's memory may differ in the last number -/
theorem tr_T.e (h : tr_T g m n) (e : e80 n n1) : tr_T g m n1 := by
  obtain ⟨a1, a2, a3, a4, a5, a6, a7⟩ := h
  refine ⟨e.I a1, fun x x0 x1 => ?_, by rw [e _ _ (by omega)]; exact a3, by rw [e _ _ (by omega)]; exact a4, fun k k0 k1 => ?_, by rw [e _ _ (by omega)]; exact a6, a7⟩
  · rw [e _ _ (by omega), e _ _ (by omega)]; exact a2 x x0 x1
  · rw [e _ _ (by omega)] at k1 ⊢; exact a5 k k0 k1
theorem t_F.e (h : t_F g n n1 x) (e : e80 n1 n2) (hl : n1 428 60 ≤ 200) : t_F g n n2 x := by
  obtain ⟨a1, a2, a3, a4, a5, a6⟩ := h
  have tm := e.tm
  have mo : t_mo n1 n2 := fun y _ _ w => ⟨by rw [e.big (by decide)]; exact w, e.big (by decide)⟩
  have e84 : n2 428 84 = n1 428 84 := e _ _ (by omega)
  refine ⟨fun y y0 y1 w => ?_, fun k k0 k1 => ?_, by rw [e84]; exact a3, fun k q1 q2 => ?_, fun i j q1 q2 q3 => ?_, fun y y0 y1 w1 w2 => ?_⟩
  · rw [e.big (by decide), e.big (by decide)]; exact a1 y y0 y1 w
  · rw [e.big (by decide)]; exact a2 k k0 k1
  · rw [e84] at q2
    rw [e.big (by decide)]
    obtain ⟨b1, b2, b3⟩ := a4 k q1 q2
    exact ⟨b1, b2.fr tm mo hl, fun q => (b3 q).fr tm (e.big (by decide))⟩
  · rw [e84] at q3
    rw [e.big (by decide), e.big (by decide)]
    exact a5 i j q1 q2 q3
  · have N1 : t_isN g n1 y := ⟨by rw [← e.big (i := 470) (by decide)]; exact w2.1, tm.dd.mp w2.2.1, tm.ty.mp w2.2.2⟩
    exact (a6 y y0 y1 w1 N1).fr tm mo hl N1
theorem t_F.rf : t_F g n n x := ⟨fun _ _ _ w => ⟨w, rfl⟩, fun _ _ _ => rfl, Int.le_refl _, fun k q1 q2 => by omega, fun i j q1 q2 q3 => by omega, fun y _ _ w1 w2 => absurd w2.1 w1⟩
/-- a parent told right -/
theorem t_par (h : o_I g m n) (hd : t_dd n u) (hy : s_no n y) : o_dn n y = u ↔ o_ln n y = u := by
  obtain ⟨d1, d2, d3⟩ := o_dn_r h hy
  have u1 := hd.1.1
  constructor
  · intro e
    obtain ⟨_, _, _, e2, _⟩ := d3 (by omega)
    rw [← e2]; exact e
  · intro e
    rcases o_cs h hy with z | z | z
    · omega
    · omega
    · obtain ⟨z1, z2, z3, z4, z5, z6⟩ := z
      have isd : o_isd n y := by
        refine ⟨?_, ?_, by rw [e]; exact hd.2.2⟩
        · have := (h.num z4).2.2.2.2.2.1
          rw [z6]; exact this.1
        · rw [z6, e]; exact hd.2.1
      unfold o_dn
      rw [if_pos ⟨z1, z3, isd⟩]
      exact e
theorem s_visit : ∀ (K : Nat) (x u deep : Int) (m n : w_M), deep + K = 21 → 1 ≤ deep → tr_T g m n → t_dd n x → (u = 0 ∨ t_isN g n u) → t_cm n (deep - 1).toNat u → xc_m_meet (d + 2 * K + 12) x u deep n (fun _ n1 => t_V (c + K + 7) g x u deep m n n1) := by
  intro K
  induction K with
  | zero =>
    intro x u deep m n hdp d1 T hx hu hcm
    obtain ⟨a1, a2, a3, a4, a5, a6, a7⟩ := id T
    have l2 := a1.2.2.1
    have xr := hx.rg l2.1.2
    have ex := (a2 x xr.1 xr.2.1).2
    have cf : ∀ (m2 n2 : w_M), t_cf m m2 → t_mf n n2 → n2 428 27 = 0 → ∀ cc v cc' v' : Int, cc ≠ 0 → cc' ≠ 0 → (∀ X : Int → w_M → Prop, X (-1) (t_fl m2 cc' v') → xc_tr_visit (c + 0 + 7) x u deep m X) → t_V (c + 0 + 7) g x u deep m n (m_fl n2 cc v) := fun m2 n2 f1 f2 f3 cc v cc' v' h1 h2 hX =>
      ⟨-1, _, hX, f1.tr t_fl_cf, f2.tr t_mfl, Or.inl ⟨rfl, t_fl_ne h2, m_fl_ne f3 h1⟩⟩
    apply xr_m_meet
    refine ⟨⟨xr.1, xr.2.1⟩, ?_⟩
    by_cases q : n 470 x = 0
    · rw [if_pos q]
      refine ⟨⟨xr.1, xr.2.1⟩, ?_⟩
      rw [if_pos (by omega)]
      refine sp_m_fail ?_
      refine cf (w_up (w_up m 402 x 1) 401 x u) _ (fun i j q1 q2 q3 => by rw [l_up (by omega), l_up (by omega)]) (fun i j q1 q2 => l_up (by omega)) (by rw [w_up_ne (by decide)]; exact a6) 5 _ 5 x (by decide) (by decide) (fun X hX => ?_)
      apply xr_tr_visit
      rw [if_pos (by omega), if_pos xr.2.1, ex, if_pos q, if_pos (by omega)]
      refine ⟨by omega, by omega, by omega, ?_⟩
      exact sp_tfl hX
    · rw [if_neg q]
      refine sp_m_fail ?_
      refine cf m n t_cf.rf t_mf.rf a6 10 _ 10 u (by decide) (by decide) (fun X hX => ?_)
      apply xr_tr_visit
      rw [if_pos (by omega), if_pos xr.2.1, ex, if_neg q]
      exact ⟨by omega, sp_tfl hX⟩
  | succ K ih =>
    intro x u deep m n hdp d1 T hx hu hcm
    obtain ⟨a1, a2, a3, a4, a5, a6, a7⟩ := id T
    have bd := a1.bd
    have l2 := a1.2.2.1
    have xr := hx.rg l2.1.2
    have ex := (a2 x xr.1 xr.2.1).2
    have cf : ∀ (m2 n2 : w_M), t_cf m m2 → t_mf n n2 → n2 428 27 = 0 → ∀ cc v cc' v' : Int, cc ≠ 0 → cc' ≠ 0 → (∀ X : Int → w_M → Prop, X (-1) (t_fl m2 cc' v') → xc_tr_visit (c + (K + 1) + 7) x u deep m X) → t_V (c + (K + 1) + 7) g x u deep m n (m_fl n2 cc v) := fun m2 n2 f1 f2 f3 cc v cc' v' h1 h2 hX =>
      ⟨-1, _, hX, f1.tr t_fl_cf, f2.tr t_mfl, Or.inl ⟨rfl, t_fl_ne h2, m_fl_ne f3 h1⟩⟩
    apply xr_m_meet
    refine ⟨⟨xr.1, xr.2.1⟩, ?_⟩
    by_cases q : n 470 x = 0
    · rw [if_pos q]
      refine ⟨⟨xr.1, xr.2.1⟩, ?_⟩
      rw [if_neg (by omega)]
      refine ⟨⟨xr.1, xr.2.1⟩, ⟨xr.1, xr.2.1⟩, ?_⟩
      obtain ⟨T0, cf0, mf0⟩ := T.mark (u := u) ⟨xr.1, xr.2.1⟩
      obtain ⟨mm, hmm⟩ : ∃ mm, mm = w_up (w_up m 402 x 1) 401 x u := ⟨_, rfl⟩
      obtain ⟨nn, hnn⟩ : ∃ nn, nn = w_up (w_up n 470 x 1) 469 x u := ⟨_, rfl⟩
      rw [← hmm, ← hnn] at T0
      rw [← hmm] at cf0
      rw [← hnn] at mf0
      rw [← hnn]
      have e469 : nn 469 x = u := by rw [hnn, w_up_eq]
      have e470 : nn 470 x = 1 := by rw [hnn, w_up_ne (by decide), w_up_eq]
      have oth : ∀ y, y ≠ x → nn 470 y = n 470 y ∧ nn 469 y = n 469 y := fun y hy => by
        rw [hnn, w_up_ne (by decide), w_up_nb hy, w_up_nb hy, w_up_ne (by decide)]
        exact ⟨rfl, rfl⟩
      have mo0 : t_mo n nn := fun y y0 y1 w => by
        have hy : y ≠ x := fun e => by rw [e] at w; omega
        obtain ⟨o1, o2⟩ := oth y hy
        exact ⟨o1.trans w, o2⟩
      have e84 : nn 428 84 = n 428 84 := by rw [hnn, w_up_ne (by decide), w_up_ne (by decide)]
      obtain ⟨I0, b2, b3, b4, b5, b6, b7⟩ := id T0
      have l20 := I0.2.2.1
      have hx0 : t_dd nn x := mf0.dd.mpr hx
      have hu0 : u = 0 ∨ t_isN g nn u := hu.imp id (fun w => w.fr mf0 mo0 l2.1.2)
      have cm0 : t_cm nn (deep - 1).toNat u := t_cm.fr mf0 mo0 l2.1.2 _ _ hcm
      have hA : ∀ y, 0 ≤ y → y < 200 → mm 401 y = nn 469 y := fun y y0 y1 => (b2 y y0 y1).1
      have k6 := (I0.num hx0.1).2.2.2.2.2.1
      have r0 : 0 ≤ nn 455 x ∧ nn 455 x < nn 428 15 := ⟨k6.1, k6.2.1⟩
      have h7 : nn 432 (nn 455 x) = 7 := hx0.2.1
      obtain ⟨b, hb⟩ : ∃ b, b = nn 455 x := ⟨_, rfl⟩
      rw [← hb] at r0 h7
      have ty3 : t_ty g nn x 3 ↔ s_nk nn (o_en g nn b 1) (s_wd 3) := by rw [hb]; exact Iff.rfl
      have ty4 : t_ty g nn x 4 ↔ s_nk nn (o_en g nn b 1) (s_wd 4) := by rw [hb]; exact Iff.rfl
      have no7 := I0.fdn (w := s_wd 7) r0 h7
      -- the class, up to what it looks at
      have cstart : ∀ (p : Int), ((p = 0 ∧ ¬ (u ≠ 0 ∧ t_ty g nn x 4)) ∨ (p = 1 ∧ u ≠ 0 ∧ t_ty g nn x 4)) → ∀ X : Int → w_M → Prop, xp_tr_visit_103 (c + (K + 1) + 6) x deep (g.1 b) p mm X → xc_tr_visit (c + (K + 1) + 7) x u deep m X := by
        intro p hp X hX
        apply xr_tr_visit
        rw [if_pos (by omega), if_pos xr.2.1, ex, if_pos q, if_neg (by omega), ← hmm]
        refine ⟨by omega, by omega, by omega, ?_⟩
        refine c_root_y (d := c + (K + 1) + 5) I0 hx0.1 ?_
        rw [← hb]
        by_cases qu : u = 0
        · rw [if_pos qu]
          rcases hp with hp | hp
          · rw [hp.1] at hX; exact hX
          · exact absurd qu hp.2.1
        · rw [if_neg qu]
          refine c_tent (d := c + (K + 1) + 2) I0 (by decide) r0 h7 ?_
          refine c_isName2 (d := c + (K + 1) + 3) I0 (by decide) (I0.enn (k := 1) r0 h7) (fun w => ?_) (fun w => ?_)
          · rw [if_neg (by decide)]
            rcases hp with hp | hp
            · exact absurd ⟨qu, ty4.mpr w⟩ hp.2
            · rw [hp.1] at hX; exact hX
          · rw [if_pos rfl]
            rcases hp with hp | hp
            · rw [hp.1] at hX; exact hX
            · exact absurd (ty4.mp hp.2.2) w
      have cgood : ∀ (p : Int), ((p = 0 ∧ ¬ (u ≠ 0 ∧ t_ty g nn x 4)) ∨ (p = 1 ∧ u ≠ 0 ∧ t_ty g nn x 4)) → ((p ≠ 0 ∨ t_ty g nn x 3) ∧ (u = 0 ∨ o_ln nn (s_fd nn (s_wd 7) (g.2.1 b)) = u) ∧ t_ow g nn b) → ∀ X : Int → w_M → Prop, (if p = 0 then (xp_tr_visit_141 (c + (K + 1) + 6) x deep (g.1 b) p mm X) else (xc_tr_takesPage (c + (K + 1) + 6) x mm (fun r3 m3 => if r3 = 0 then (xc_ps_fail (c + (K + 1) + 6) 376 10 x m3 (fun r4 m4 => X r4 m4)) else (xp_tr_visit_141 (c + (K + 1) + 6) x deep (g.1 b) p m3 X)))) → xc_tr_visit (c + (K + 1) + 7) x u deep m X := by
        intro p hp hl X hX
        refine cstart p hp X ?_
        apply xr_tr_visit_103
        refine c_looksRight (d := c + (K + 1)) I0 ⟨xr.1, xr.2.1⟩ (by rw [hA x xr.1 xr.2.1, e469]) r0 h7 (fun _ => ?_) (fun w => absurd ⟨hl.1.imp id ty3.mp, hl.2.1, hl.2.2⟩ w)
        rw [if_neg (by decide)]
        exact hX
      have cbad : ∀ (p : Int), ((p = 0 ∧ ¬ (u ≠ 0 ∧ t_ty g nn x 4)) ∨ (p = 1 ∧ u ≠ 0 ∧ t_ty g nn x 4)) → ¬ ((p ≠ 0 ∨ t_ty g nn x 3) ∧ (u = 0 ∨ o_ln nn (s_fd nn (s_wd 7) (g.2.1 b)) = u) ∧ t_ow g nn b) → ∀ X : Int → w_M → Prop, X (-1) (t_fl mm 10 x) → xc_tr_visit (c + (K + 1) + 7) x u deep m X := by
        intro p hp hl X hX
        refine cstart p hp X ?_
        apply xr_tr_visit_103
        refine c_looksRight (d := c + (K + 1)) I0 ⟨xr.1, xr.2.1⟩ (by rw [hA x xr.1 xr.2.1, e469]) r0 h7 (fun w => absurd ⟨w.1.imp id ty3.mpr, w.2.1, w.2.2⟩ hl) (fun _ => ?_)
        rw [if_pos rfl]
        exact sp_tfl hX
      have z27 : ∀ {n2 : w_M}, e80 nn n2 → n2 428 27 = 0 := fun e => by rw [e _ _ (by omega)]; exact b6
      have bad : ∀ (p : Int), ((p = 0 ∧ ¬ (u ≠ 0 ∧ t_ty g nn x 4)) ∨ (p = 1 ∧ u ≠ 0 ∧ t_ty g nn x 4)) → ¬ ((p ≠ 0 ∨ t_ty g nn x 3) ∧ (u = 0 ∨ o_ln nn (s_fd nn (s_wd 7) (g.2.1 b)) = u) ∧ t_ow g nn b) → ∀ n2, e80 nn n2 → t_V (c + (K + 1) + 7) g x u deep m n (m_fl n2 10 x) := fun p hp hl n2 e =>
        cf mm n2 cf0 (mf0.tr e.tm) (z27 e) 10 _ 10 x (by decide) (by decide) (cbad p hp hl)
      -- behind Type and Parent
      have k132 : ∀ (p l6 : Int), ((p = 0 ∧ l6 = 1 ∧ ¬ (u ≠ 0 ∧ t_ty g nn x 4)) ∨ (p = 1 ∧ l6 = 0 ∧ u ≠ 0 ∧ t_ty g nn x 4)) → (p ≠ 0 ∨ t_ty g nn x 3) → (u = 0 ∨ o_ln nn (s_fd nn (s_wd 7) (g.2.1 b)) = u) → ∀ n2, e80 nn n2 → xp_m_meet_132 (d + 2 * (K + 1) + 11) x deep b l6 n2 (fun _ n1 => t_V (c + (K + 1) + 7) g x u deep m n n1) := by
        intro p l6 hp hl1 hl2 n2 e2
        have hp' : (p = 0 ∧ ¬ (u ≠ 0 ∧ t_ty g nn x 4)) ∨ (p = 1 ∧ u ≠ 0 ∧ t_ty g nn x 4) := hp.imp (fun w => ⟨w.1, w.2.2⟩) (fun w => ⟨w.1, w.2.2⟩)
        apply xr_m_meet_132
        refine r_ownsRight (d := d + 2 * (K + 1) + 3) I0 e2 r0 h7 (fun ow n3 e3 => ?_) (fun ow n3 e3 => ?_)
        · rw [if_neg (by decide)]
          have cg := cgood p hp' ⟨hl1, hl2, ow⟩
          rcases hp with ⟨hp, hp2, hp3⟩ | ⟨hp, hp2, hp3, hp4⟩
          · -- a node
            rw [hp] at cg hl1
            have ty3' : t_ty g nn x 3 := hl1.resolve_left (fun w => w rfl)
            have cg : ∀ X : Int → w_M → Prop, xp_tr_visit_141 (c + (K + 1) + 6) x deep (g.1 b) 0 mm X → xc_tr_visit (c + (K + 1) + 7) x u deep m X := fun X hX => cg X (by rw [if_pos rfl]; exact hX)
            rw [hp2, if_neg (by decide)]
            obtain ⟨z, hz⟩ : ∃ z, z = o_en g nn b 5 := ⟨_, rfl⟩
            have zno : s_no nn z := by rw [hz]; exact I0.enn r0 h7
            have c141 : ∀ X : Int → w_M → Prop, (if (if z < 0 then 0 else nn 432 z) = 6 then (xc_st_firstPart (c + (K + 1) + 6) (o_up g z) mm (fun r3 m3 => xc_st_parts (c + (K + 1) + 6) (o_up g z) m3 (fun r4 m4 => xp_tr_visit_210 (c + (K + 1) + 6) x deep (g.1 b) 0 r3 r4 m4 X))) else (X (-1) (t_fl mm 10 x))) → xc_tr_visit (c + (K + 1) + 7) x u deep m X := fun X hX => cg X (by
              apply xr_tr_visit_141
              rw [if_pos rfl]
              refine c_tent (d := c + (K + 1) + 2) I0 (by decide) r0 h7 ?_
              rw [show o_re nn (s_fd nn (s_wd 5) (g.2.1 b)) = z from hz.symm]
              refine sp_st_kindOf (d := c + (K + 1) + 5) ?_
              rw [o_kd I0 zno]
              by_cases q6 : (if z < 0 then 0 else nn 432 z) = 6
              · rw [if_pos q6] at hX ⊢; exact hX
              · rw [if_neg q6] at hX ⊢; exact sp_tfl hX)
            apply xr_m_meetNode
            refine r_tent (d := d + 2 * (K + 1) + 3) I0 e3 t_mKids r0 h7 (fun n4 e4 _ => ?_)
            rw [show o_re nn (s_fd nn (s_wd 5) (g.2.1 b)) = z from hz.symm, e4.big (i := 432) (by decide), e4.big (i := 436) (by decide)]
            have failk : ¬ (0 ≤ z ∧ nn 432 z = 6) → t_V (c + (K + 1) + 7) g x u deep m n (m_fl n4 10 x) := fun w => cf mm n4 cf0 (mf0.tr e4.tm) (z27 e4) 10 _ 10 x (by decide) (by decide) (fun X hX => c141 X (by
              rw [if_neg]
              · exact hX
              · intro w2
                split at w2
                · omega
                · exact w ⟨by omega, w2⟩))
            by_cases qz : z < 0
            · rw [if_pos qz]
              exact sp_m_fail (failk (fun w => by omega))
            · rw [if_neg qz]
              have zr : 0 ≤ z ∧ z < nn 428 15 := by unfold s_no at zno; omega
              have bd0 := I0.bd
              refine ⟨by omega, ?_⟩
              by_cases q6 : nn 432 z = 6
              · rw [if_pos q6]
                refine ⟨by omega, ?_⟩
                have c141 := fun (X : Int → w_M → Prop) hX => c141 X (by rw [if_neg qz, if_pos q6]; exact hX)
                have nd := I0.1.2.1 z zr.1 zr.2
                have nd1 := nd.1
                have nd2 := nd.2.1
                have ls := (I0.1.2.2.2.2 z zr.1 zr.2 (Or.inl q6)).1
                have p9 := nd.2.2.2.2.2.2.2.2.1 (Or.inl q6)
                have k36 : mm 360 (g.1 z) = 6 := by rw [nd.2.2.1]; exact q6
                have lenL := ls.1.len bd0.1.1
                have up : o_up g z = g.1 z := if_neg qz
                have c210 : ∀ X : Int → w_M → Prop, xp_tr_visit_210 (c + (K + 1) + 6) x deep (g.1 b) 0 (mm 361 (g.1 z)) (nn 435 z) mm X → xc_tr_visit (c + (K + 1) + 7) x u deep m X := fun X hX => c141 X (by
                  rw [up]
                  refine sp_st_firstPart (d := c + (K + 1) + 5) ?_
                  refine sp_st_parts (d := c + (K + 1) + 5) ?_
                  rw [f_first_v ⟨by omega, nd2⟩ (by omega) (Or.inl k36), f_parts_v ⟨by omega, nd2⟩ (by omega) (Or.inl k36), p9.1]
                  exact hX)
                have e484 : n4 428 84 = nn 428 84 := e4 _ _ (by omega)
                rw [e484]
                -- the loop over Kids
                have key : ∀ (L : List Int) (k kc below : Int) (mc nc : w_M), s_ch nn (nn 428 15) k L → s_l2 g.1 (nn 428 15) kc k → tr_T g mc nc → t_cf mm mc → t_mf nn nc → t_F g nn nc 0 → below = nc 428 84 - nn 428 84 → (∀ y ∈ L, y ∈ g.2.1 z) → L.length ≤ (g.2.1 z).length → (∀ y ∈ g.2.1 z, y ∈ L ∨ o_dn nn y ≠ 0) → (∀ X : Int → w_M → Prop, xp_tr_visit_210 (c + (K + 1) + 6) x deep (g.1 b) below kc L.length mc X → xc_tr_visit (c + (K + 1) + 7) x u deep m X) →
                    xp_m_meetNode_50 (d + 2 * (K + 1) + 10) x b deep (nn 428 84) k nc (fun _ n1 => t_V (c + (K + 1) + 7) g x u deep m n n1) := by
                  intro L
                  induction L with
                  | nil =>
                    intro k kc below mc nc hc hlk Tc cfc mfc Fc hbl hsub hlen hdn hcl
                    have hk : k = -1 := hc
                    obtain ⟨Ic, c2, c3, c4, c5, c6, c7⟩ := id Tc
                    have c84 := Fc.2.2.1
                    obtain ⟨cz, hcz⟩ : ∃ cz, cz = o_en g nn b 6 := ⟨_, rfl⟩
                    have mfc' : o_en g nc b 6 = cz := by rw [mfc.en]; exact hcz.symm
                    have rb : 0 ≤ b ∧ b < nc 428 15 := by rw [mfc _ _ (by omega) (by omega)]; exact r0
                    have h7c : nc 432 b = 7 := by rw [mfc.c (by decide)]; exact h7
                    have czno : s_no nc cz := by rw [← mfc']; exact Ic.enn rb h7c
                    -- the class
                    have c302 : ∀ X : Int → w_M → Prop, (if (if cz < 0 then 0 else nc 432 cz) = 2 then (if nc 433 cz = below then (X below mc) else (X (-1) (t_fl mc 10 x))) else (X (-1) (t_fl mc 10 x))) → xc_tr_visit (c + (K + 1) + 7) x u deep m X := fun X hX => hcl X (by
                      apply xr_tr_visit_210
                      rw [if_neg (by decide)]
                      apply xr_tr_visit_302
                      refine c_tent (d := c + (K + 1) + 2) Ic (by decide) rb h7c ?_
                      rw [show o_re nc (s_fd nc (s_wd 6) (g.2.1 b)) = cz from mfc']
                      refine sp_st_kindOf (d := c + (K + 1) + 5) ?_
                      rw [o_kd Ic czno]
                      by_cases q2 : (if cz < 0 then 0 else nc 432 cz) = 2
                      · rw [if_pos q2] at hX ⊢
                        have cz0 : ¬ cz < 0 := fun w => by rw [if_pos w] at q2; omega
                        rw [if_neg cz0] at q2
                        refine sp_st_oneOf (d := c + (K + 1) + 5) ?_
                        have e1 : f_st_oneOf mc (o_up g cz) = nc 433 cz := by
                          have := Ic.1.one czno (Or.inr (Or.inl (by show (if cz < 0 then -1 else nc 432 cz) = 2; rw [if_neg cz0]; exact q2)))
                          rw [s_up_y (by omega)] at this
                          unfold o_up
                          rw [if_neg cz0]
                          exact this
                        rw [e1]
                        by_cases q3 : nc 433 cz = below
                        · rw [if_pos q3] at hX ⊢; exact hX
                        · rw [if_neg q3] at hX ⊢; exact sp_tfl hX
                      · rw [if_neg q2] at hX ⊢; exact sp_tfl hX)
                    apply xr_m_meetNode_50
                    rw [if_pos (by omega)]
                    apply xr_m_meetNode_107
                    refine r_gd ?_
                    rw [if_pos c6, if_neg (by decide)]
                    refine r_tent (d := d + 2 * (K + 1) + 3) Ic e80.rf t_mCount rb h7c (fun n5 e5 _ => ?_)
                    rw [show o_re nc (s_fd nc (s_wd 6) (g.2.1 b)) = cz from mfc', e5.big (by decide), e5.big (by decide), e5 428 84 (by omega), w_32_id (x := nc 428 84 - nn 428 84) (by omega) (by omega), ← hbl]
                    have n527 : n5 428 27 = 0 := by rw [e5 _ _ (by omega)]; exact c6
                    have failc : ¬ (0 ≤ cz ∧ nc 432 cz = 2 ∧ nc 433 cz = below) → t_V (c + (K + 1) + 7) g x u deep m n (m_fl n5 10 x) := fun w => cf mc n5 (cf0.tr cfc) (mf0.tr (mfc.tr e5.tm)) n527 10 _ 10 x (by decide) (by decide) (fun X hX => c302 X (by
                      refine z_ite (fun w2 => ?_) (fun _ => hX)
                      refine z_ite (fun w3 => ?_) (fun _ => hX)
                      split at w2
                      · omega
                      · exact absurd ⟨by omega, w2, w3⟩ w))
                    by_cases qc : cz < 0
                    · rw [if_pos qc]
                      exact sp_m_fail (failc (fun w => by omega))
                    · rw [if_neg qc]
                      have bdc := Ic.bd
                      have czr : 0 ≤ cz ∧ cz < nc 428 15 := by unfold s_no at czno; omega
                      refine ⟨by omega, ?_⟩
                      by_cases q2 : nc 432 cz = 2
                      · rw [if_pos q2]
                        refine ⟨by omega, ?_⟩
                        by_cases q3 : nc 433 cz = below
                        · rw [if_pos q3]
                          -- all is well
                          have Fe := Fc.e e5 Ic.2.2.1.1.2
                          have mfe : t_mf nn n5 := mfc.tr e5.tm
                          have mo2 : t_mo nn n5 := Fe.1
                          refine ⟨below, mc, fun X hX => c302 X (by rw [if_neg qc, if_pos q2, if_pos q3]; exact hX), cf0.tr cfc, mf0.tr mfe, Or.inr ⟨Tc.e e5, by rw [e5 _ _ (by omega), hbl, e84], ?_, by omega, (mo2 x xr.1 xr.2.1 e470).1, (mo2 x xr.1 xr.2.1 e470).2.trans e469, fun _ => ⟨(mo2 x xr.1 xr.2.1 e470).1, mfe.dd.mpr hx0, mfe.ty.mpr ty3'⟩⟩⟩
                          have mot : t_mo n n5 := fun y y0 y1 w => by
                            obtain ⟨w1, w2⟩ := mo0 y y0 y1 w
                            obtain ⟨w3, w4⟩ := mo2 y y0 y1 w1
                            exact ⟨w3, w4.trans w2⟩
                          obtain ⟨f1, f2, f3, f4, f5, f6⟩ := Fe
                          refine ⟨mot, fun k k0 k1 => ?_, by omega, fun k q1 q2 => ?_, fun i j q1 q2 q3 => f5 i j (by omega) q2 q3, fun y y0 y1 w1 w2 => ?_⟩
                          · rw [f2 k k0 (by omega), hnn, w_up_ne (by decide), w_up_ne (by decide)]
                          · obtain ⟨g1, g2, g3⟩ := f4 k (by omega) q2
                            refine ⟨fun w => ?_, g2, fun _ => g3 ?_⟩
                            · by_cases qx : n5 468 k = x
                              · rw [qx] at g1; exact g1 e470
                              · rw [(oth _ qx).1] at g1; exact g1 w
                            · have := g2.1.rg (by rw [mfe _ _ (by omega) (by omega)]; exact l20.1.2)
                              exact this.2.2
                          · by_cases qx : y = x
                            · rw [qx] at w2 ⊢
                              have e55 : n5 455 x = b := by rw [mfe.c (by decide)]; exact hb.symm
                              have e69 : n5 469 x = u := (mo2 x xr.1 xr.2.1 e470).2.trans e469
                              have hl5 : nn 428 60 ≤ 200 := l20.1.2
                              refine ⟨by rw [e55, mfe.ow]; exact ow, ⟨by rw [e55, mfe.en, ← hz]; exact zr.1, by rw [e55, mfe.en, ← hz, mfe.c (by decide)]; exact q6, fun t ht => ?_⟩, ⟨by rw [e55, mfe.en, ← hcz]; exact czr.1, by rw [e55, mfe.en, ← hcz, mfe.c (by decide), ← mfc.c (i := 432) (by decide)]; exact q2⟩, ?_, ?_⟩
                              · rw [e55, mfe.en, ← hz] at ht
                                rw [mfe.dn]
                                exact (hdn t ht).resolve_left (fun w => by cases w)
                              · rw [e69]
                                exact hu0.imp id (fun w => w.fr mfe mo2 hl5)
                              · refine Or.inr ⟨mfe.dd.mpr hx0, (mo2 x xr.1 xr.2.1 e470).1, ?_⟩
                                rw [e69]
                                exact (t_cm.fr mfe mo2 hl5 _ _ cm0).le (f' := 19) (by omega)
                            · exact f6 y y0 y1 (by rw [(oth y qx).1]; exact w1) w2
                        · rw [if_neg q3]
                          exact sp_m_fail (failc (fun w => q3 w.2.2))
                      · rw [if_neg q2]
                        exact sp_m_fail (failc (fun w => q2 w.2.1))
                  | cons y L ihL =>
                    intro k kc below mc nc hc hlk Tc cfc mfc Fc hbl hsub hlen hdn hcl
                    obtain ⟨h1, h2, h3, h4⟩ := hc
                    subst h1
                    obtain ⟨Ic, c2, c3, c4, c5, c6, c7⟩ := id Tc
                    have c84 := Fc.2.2.1
                    have n84 : 0 ≤ nn 428 84 := b4.1
                    have ekc : kc = g.1 k := by
                      rcases hlk with w2 | ⟨w1, w2, w3⟩
                      · omega
                      · exact w3
                    have yno : s_no nc k := by
                      refine Or.inr ⟨h2, ?_⟩
                      rw [mfc _ _ (by omega) (by omega)]
                      exact h3
                    have ndy := I0.1.2.1 k h2 h3
                    have ndy1 := ndy.1
                    have ndy2 := ndy.2.1
                    have len1 : ((k :: L).length : Int) = L.length + 1 := by rw [List.length_cons]; rfl
                    have Lp : (0 : Int) ≤ L.length := Int.natCast_nonneg _
                    have len2 : L.length + 1 ≤ (g.2.1 z).length := by rw [List.length_cons] at hlen; exact hlen
                    have m359 : mc 359 6 = mm 359 6 := cfc _ _ (by omega) (by omega) (by omega)
                    rw [ekc, len1] at hcl
                    -- the class at this kid
                    have tg : ∀ Z : Int → w_M → Prop, Z (o_ln nc k) mc → xc_ta_target (c + (K + 1) + 6) (g.1 k) mc Z := fun Z hZ => by
                      have := c_target (d := c + (K + 1) + 5) (Q := Z) Ic yno hZ
                      rw [s_up_y h2] at this
                      exact this
                    have dc : ∀ Z : Int → w_M → Prop, (o_isd nc k → Z (g.1 (o_re nc k)) mc) → (¬ o_isd nc k → Z (-1) mc) → xc_ta_dict (c + (K + 1) + 6) (g.1 k) mc Z := fun Z h1 h0 => by
                      have := c_dict (d := c + (K + 1) + 2) (Q := Z) Ic yno h1 h0
                      rw [s_up_y h2] at this
                      exact this
                    have ckid : ∀ X : Int → w_M → Prop, (if o_ln nc k = 0 then (X (-1) (t_fl mc 10 x)) else (xc_ta_dict (c + (K + 1) + 6) (g.1 k) mc (fun r3 m3 => if r3 < 0 then (xc_ps_fail (c + (K + 1) + 6) 376 10 x m3 (fun r4 m4 => X r4 m4)) else (xc_tr_visit (c + (K + 1) + 6) (o_ln nc k) x (w_32 (deep + 1)) m3 (fun r5 m5 => if r5 < 0 then (X (-1) m5) else (xc_st_nextOf (c + (K + 1) + 6) (g.1 k) m5 (fun r6 m6 => xp_tr_visit_210 (c + (K + 1) + 6) x deep (g.1 b) (w_32 (below + r5)) r6 (w_32 ((L.length : Int) + 1 + (-1))) m6 X))))))) → xc_tr_visit (c + (K + 1) + 7) x u deep m X := fun X hX => hcl X (by
                      apply xr_tr_visit_210
                      rw [if_pos (by omega), if_neg (by omega)]
                      refine tg _ ?_
                      by_cases q0 : o_ln nc k = 0
                      · rw [if_pos q0] at hX ⊢; exact sp_tfl hX
                      · rw [if_neg q0] at hX ⊢; exact hX)
                    apply xr_m_meetNode_50
                    rw [if_neg (by omega)]
                    refine r_gd ?_
                    rw [if_pos c6, if_neg (by decide)]
                    refine r_dictNumber (d := d + 2 * (K + 1) + 6) Ic e80.rf yno (fun n5 e5 => ?_)
                    obtain ⟨d1, d2, d3⟩ := o_dn_r Ic yno
                    have n527 : n5 428 27 = 0 := by rw [e5 _ _ (by omega)]; exact c6
                    by_cases q0 : o_dn nc k = 0
                    · rw [if_pos q0]
                      refine sp_m_fail ?_
                      have bdc := Ic.bd
                      have k40 : k < 40000 := by unfold s_no at yno; omega
                      refine ⟨⟨h2, k40⟩, ?_⟩
                      -- both fail; the reference runs on to its end
                      have V : t_V (c + (K + 1) + 7) g x u deep m n (m_fl n5 10 x) := cf mc n5 (cf0.tr cfc) (mf0.tr (mfc.tr e5.tm)) n527 10 _ 10 x (by decide) (by decide) (fun X hX => ckid X (by
                        rcases (o_dn_0 Ic yno).mp q0 with w | w
                        · rw [if_pos w]; exact hX
                        · refine z_ite (fun _ => hX) (fun _ => ?_)
                          refine dc _ (fun w2 => absurd w2 w) (fun _ => ?_)
                          rw [if_pos (by decide)]
                          exact sp_tfl hX))
                      have f27 := m_fl_ne (c := 10) (v := x) n527 (by decide)
                      apply xr_m_meetNode_50
                      have tail : xp_m_meetNode_107 (d + 2 * (K + 1) + 10) x b (nn 428 84) (m_fl n5 10 x) (fun _ n1 => t_V (c + (K + 1) + 7) g x u deep m n n1) := by
                        apply xr_m_meetNode_107
                        refine r_gd ?_
                        rw [if_neg f27, if_pos rfl]
                        exact V
                      refine z_ite (fun _ => tail) (fun _ => ?_)
                      refine r_gd ?_
                      rw [if_neg f27, if_pos rfl]
                      exact tail
                    · rw [if_neg q0, w_32_id (x := deep + 1) (by omega) (by omega)]
                      obtain ⟨u1, u2, u3, u4, u5⟩ := d3 q0
                      obtain ⟨ch, hch⟩ : ∃ ch, ch = o_dn nc k := ⟨_, rfl⟩
                      rw [← hch] at u1 u2 u3 u4 d1 d2 q0
                      rw [← hch]
                      have ln0 : o_ln nc k = ch := u4.symm
                      have hl5 : nn 428 60 ≤ 200 := l20.1.2
                      have hlc : nc 428 60 ≤ 200 := Ic.2.2.1.1.2
                      have moc : t_mo nn nc := Fc.1
                      have hchd : t_dd nc ch := ⟨u1, u2, u3⟩
                      have xc : nc 470 x = 1 ∧ nc 469 x = nn 469 x := moc x xr.1 xr.2.1 e470
                      have N5 : t_isN g nc x := ⟨xc.1, mfc.dd.mpr hx0, mfc.ty.mpr ty3'⟩
                      have cm5 : t_cm nc (deep + 1 - 1).toNat x := by
                        rw [show (deep + 1 - 1).toNat = (deep - 1).toNat + 1 by omega]
                        refine Or.inr ⟨mfc.dd.mpr hx0, xc.1, ?_⟩
                        rw [xc.2, e469]
                        exact t_cm.fr mfc moc hl5 _ _ cm0
                      have mo5 : t_mo nc n5 := fun y _ _ w => ⟨by rw [e5.big (by decide)]; exact w, e5.big (by decide)⟩
                      have g41 : 41 ≤ g.1 (o_re nc k) := by
                        rcases o_cs Ic yno with w | w | w
                        · omega
                        · omega
                        · have k6' := (Ic.num w.2.2.2.1).2.2.2.2.2.1
                          rw [w.2.2.2.2.2]
                          exact (Ic.1.2.1 _ k6'.1 k6'.2.1).1
                      have run := ih ch x (deep + 1) mc n5 (by omega) (by omega) (Tc.e e5) (e5.tm.dd.mpr hchd) (Or.inr (N5.fr e5.tm mo5 hlc)) (t_cm.fr e5.tm mo5 hlc _ _ cm5)
                      refine w_C.more run (fun _ n6 hV => ?_)
                      obtain ⟨r5, m5, v1, v2, v3, v4⟩ := hV
                      have bdc := Ic.bd
                      have k40 : k < 40000 := by unfold s_no at yno; omega
                      refine ⟨⟨h2, k40⟩, ?_⟩
                      have mf6 : t_mf nn n6 := mfc.tr (e5.tm.tr v3)
                      rw [mf6.c (i := 437) (by decide)]
                      have cgo : ∀ X : Int → w_M → Prop, (if r5 < 0 then (X (-1) m5) else (xc_st_nextOf (c + (K + 1) + 6) (g.1 k) m5 (fun r6 m6 => xp_tr_visit_210 (c + (K + 1) + 6) x deep (g.1 b) (w_32 (below + r5)) r6 L.length m6 X))) → xc_tr_visit (c + (K + 1) + 7) x u deep m X := fun X hX => ckid X (by
                        rw [ln0, if_neg q0, w_32_id (x := deep + 1) (by omega) (by omega), w_32_id (x := (L.length : Int) + 1 + -1) (by omega) (by omega), show (L.length : Int) + 1 + -1 = L.length by omega]
                        refine dc _ (fun _ => ?_) (fun w => absurd u5 w)
                        rw [if_neg (by omega)]
                        exact v1 _ hX)
                      rcases v4 with ⟨w1, w2, w3⟩ | ⟨T6, w1, F6, w2, w3, w4, _⟩
                      · -- a fault below
                        have V : t_V (c + (K + 1) + 7) g x u deep m n n6 := ⟨-1, m5, fun X hX => cgo X (by rw [if_pos (by omega)]; exact hX), cf0.tr (cfc.tr v2), mf0.tr mf6, Or.inl ⟨rfl, w2, w3⟩⟩
                        have tail : xp_m_meetNode_107 (d + 2 * (K + 1) + 10) x b (nn 428 84) n6 (fun _ n1 => t_V (c + (K + 1) + 7) g x u deep m n n1) := by
                          apply xr_m_meetNode_107
                          refine r_gd ?_
                          rw [if_neg w3, if_pos rfl]
                          exact V
                        apply xr_m_meetNode_50
                        refine z_ite (fun _ => tail) (fun _ => ?_)
                        refine r_gd ?_
                        rw [if_neg w3, if_pos rfl]
                        exact tail
                      · have r50 : 0 ≤ r5 := by have := F6.2.2.1; omega
                        have e584 : n5 428 84 = nc 428 84 := e5 _ _ (by omega)
                        have T62 := T6.2.2.2.1
                        have F5 := Fc.e e5 hlc
                        have mf5 : t_mf nn n5 := mfc.tr e5.tm
                        have F7 : t_F g nn n6 0 := t_F.tr mf5 v3 hl5 n84 F5 F6 (fun k' q1 q2 q3 _ => by
                          have := (F5.2.2.2.1 k' q1 q2).2.1.1.rg (by rw [mf5 _ _ (by omega) (by omega)]; exact hl5)
                          exact absurd q3 this.2.2) (fun k' q1 q2 q3 _ => by
                          refine ⟨k, ?_, ?_⟩
                          · rw [w4, mf6.c (by decide), ← hb, mf6.en, ← hz]
                            exact hsub k (List.mem_cons_self ..)
                          · rw [mf6.dn, ← mfc.dn]
                            exact hch.symm)
                        refine ihL (nn 437 k) (mm 363 (g.1 k)) (below + r5) m5 n6 h4 ndy.2.2.2.2.2.2.2.2.2.1 T6 (cfc.tr v2) mf6 F7 (by omega) (fun t ht => hsub t (List.mem_cons_of_mem _ ht)) (by omega) (fun t ht => ?_) (fun X hX => cgo X ?_)
                        · rcases hdn t ht with w | w
                          · rcases List.mem_cons.mp w with e | e
                            · refine Or.inr ?_
                              rw [e, ← mfc.dn, ← hch]
                              exact q0
                            · exact Or.inl e
                          · exact Or.inr w
                        · rw [if_neg (by omega), w_32_id (x := below + r5) (by omega) (by omega)]
                          refine sp_st_nextOf (d := c + (K + 1) + 5) ?_
                          have m5f : ∀ i j, i ≤ 375 → m5 i j = mm i j := fun i j w => by
                            rw [v2 i j (by omega) (by omega) (by omega)]
                            exact cfc i j (by omega) (by omega) (by omega)
                          rw [f_next_v ⟨by omega, by rw [m5f _ _ (by decide)]; exact ndy2⟩ (by rw [m5f _ _ (by decide)]; omega), m5f _ _ (by decide)]
                          exact hX
                have lk0 : s_l2 g.1 (nn 428 15) (mm 361 (g.1 z)) (nn 436 z) := p9.2.l2
                refine key (g.2.1 z) (nn 436 z) (mm 361 (g.1 z)) 0 mm n4 ls.1 lk0 (T0.e e4) t_cf.rf e4.tm (t_F.rf.e e4 l20.1.2) (by omega) (fun y hy => hy) (Nat.le_refl _) (fun y hy => Or.inl hy) (fun X hX => c210 X (by rw [ls.2.1]; exact hX))
              · rw [if_neg q6]
                exact sp_m_fail (failk (fun w => q6 w.2))
          · -- a page
            rw [hp] at cg
            have cg : ∀ X : Int → w_M → Prop, xc_tr_takesPage (c + (K + 1) + 6) x mm (fun r3 m3 => if r3 = 0 then (xc_ps_fail (c + (K + 1) + 6) 376 10 x m3 (fun r4 m4 => X r4 m4)) else (xp_tr_visit_141 (c + (K + 1) + 6) x deep (g.1 b) 1 m3 X)) → xc_tr_visit (c + (K + 1) + 7) x u deep m X := fun X hX => cg X (by rw [if_neg (by decide)]; exact hX)
            rw [hp2, if_pos rfl]
            have cmx : t_cm nn 21 x := Or.inr ⟨hx0, e470, by rw [e469]; exact cm0.le (f' := 20) (by omega)⟩
            have chx := t_cm.ch 21 x cmx
            have dk : t_dk nn x := ⟨hx0.1, hx0.2.1⟩
            obtain ⟨at1, at2⟩ := t_at_no (k := 8) I0 21 x chx
            obtain ⟨A, hAt⟩ : ∃ A, A = t_at g nn 8 21 x := ⟨_, rfl⟩
            obtain ⟨ct, hct⟩ : ∃ ct, ct = t_ct g nn b := ⟨_, rfl⟩
            rw [← hAt] at at1 at2
            have ctk : ∀ X : Int → w_M → Prop, (if A < 0 then (X (-1) (t_fl mm 10 x)) else (xp_tr_takesPage_23 (c + (K + 1) + 5) x ct mm (fun r3 m3 => if r3 = 0 then (xc_ps_fail (c + (K + 1) + 6) 376 10 x m3 (fun r4 m4 => X r4 m4)) else (xp_tr_visit_141 (c + (K + 1) + 6) x deep (g.1 b) 1 m3 X)))) → xc_tr_visit (c + (K + 1) + 7) x u deep m X := fun X hX => cg X (by
              apply xr_tr_takesPage
              refine c_attribute (d := c + (K + 1) + 1) I0 (by decide) hA chx ?_
              rw [← hAt]
              by_cases qA : A < 0
              · rw [if_pos qA] at hX
                rw [s_up_n qA, if_pos (by decide)]
                apply xr_tr_takesPage_23
                rw [if_pos (by decide), if_pos rfl]
                exact sp_tfl hX
              · rw [if_neg qA] at hX
                have Ar : 0 ≤ A ∧ A < nn 428 15 := by unfold s_no at at1; omega
                have g41 := (I0.1.2.1 A Ar.1 Ar.2).1
                rw [s_up_y Ar.1, if_neg (by omega)]
                refine c_gather0 (d := c + (K + 1) + 1) I0 dk ?_
                rw [← hb, ← hct]
                exact hX)
            apply xr_m_meetPage
            refine r_inherited (d := d + 2 * (K + 1)) I0 e3 t_mMediaBox chx (fun n4 e4 => ?_)
            rw [← hAt]
            by_cases qA : A < 0
            · have rA : o_re nn A = -1 := by
                unfold o_re
                rw [o_rs_n qA]
              rw [rA, if_pos (by decide)]
              refine sp_m_fail ?_
              exact cf mm n4 cf0 (mf0.tr e4.tm) (z27 e4) 10 _ 10 x (by decide) (by decide) (fun X hX => ctk X (by rw [if_pos qA]; exact hX))
            · have rA : ¬ o_re nn A < 0 := fun w => at2 (by omega) (Or.inl w)
              rw [if_neg rA]
              have ctk : ∀ X : Int → w_M → Prop, xp_tr_takesPage_23 (c + (K + 1) + 5) x ct mm (fun r3 m3 => if r3 = 0 then (xc_ps_fail (c + (K + 1) + 6) 376 10 x m3 (fun r4 m4 => X r4 m4)) else (xp_tr_visit_141 (c + (K + 1) + 6) x deep (g.1 b) 1 m3 X)) → xc_tr_visit (c + (K + 1) + 7) x u deep m X := fun X hX => ctk X (by rw [if_neg qA]; exact hX)
              refine r_contentsOf (d := d + 2 * (K + 1) + 2) I0 e4 dk (fun n5 e5 => ?_)
              rw [← hb, ← hct]
              have e584 : n5 428 84 = nn 428 84 := e5 _ _ (by omega)
              by_cases qc : ct < 0
              · rw [if_pos qc]
                refine sp_m_fail ?_
                refine cf mm n5 cf0 (mf0.tr e5.tm) (z27 e5) 10 _ 10 x (by decide) (by decide) (fun X hX => ctk X ?_)
                apply xr_tr_takesPage_23
                rw [if_pos qc, if_pos rfl]
                exact sp_tfl hX
              · rw [if_neg qc]
                have clim : ∀ n5, e80 nn n5 → (∀ X : Int → w_M → Prop, (xc_ps_fail (c + (K + 1) + 5) 376 5 x mm (fun r1 m1 => if (0 : Int) = 0 then (xc_ps_fail (c + (K + 1) + 6) 376 10 x m1 (fun r4 m4 => X r4 m4)) else (xp_tr_visit_141 (c + (K + 1) + 6) x deep (g.1 b) 1 m1 X))) → xc_tr_visit (c + (K + 1) + 7) x u deep m X) → t_V (c + (K + 1) + 7) g x u deep m n (m_fl n5 5 x) := fun n5 e5 hX => by
                  refine cf (t_fl mm 5 x) n5 (cf0.tr t_fl_cf) (mf0.tr e5.tm) (z27 e5) 5 _ 10 x (by decide) (by decide) (fun X hX2 => hX X ?_)
                  refine sp_tfl ?_
                  rw [if_pos rfl]
                  exact sp_tfl hX2
                by_cases qm : 40000 < ct
                · rw [if_pos qm]
                  refine sp_m_fail ?_
                  refine clim n5 e5 (fun X hX => ctk X ?_)
                  apply xr_tr_takesPage_23
                  rw [if_neg qc, if_pos qm]
                  exact hX
                · rw [if_neg qm, e584]
                  by_cases q60 : nn 428 84 = 60
                  · rw [if_pos q60]
                    refine sp_m_fail ?_
                    refine clim n5 e5 (fun X hX => ctk X ?_)
                    apply xr_tr_takesPage_23
                    rw [if_neg qc, if_neg qm, b3, if_neg (by omega), if_neg (by omega)]
                    exact hX
                  · rw [if_neg q60, w_32_id (x := nn 428 84 + 1) (by omega) (by omega)]
                    refine ⟨by omega, ?_⟩
                    obtain ⟨n6, hn6⟩ : ∃ n6, n6 = w_up (w_up n5 468 (nn 428 84) x) 428 84 (nn 428 84 + 1) := ⟨_, rfl⟩
                    obtain ⟨m6, hm6⟩ : ∃ m6, m6 = w_up (w_up mm 400 (nn 428 84) x) 399 7 (nn 428 84 + 1) := ⟨_, rfl⟩
                    rw [← hn6]
                    have f6 : ∀ i j : Int, ¬ (i = 468 ∧ j = nn 428 84) → ¬ (i = 428 ∧ (j = 80 ∨ j = 84)) → n6 i j = nn i j := fun i j q1 q2 => by rw [hn6, l_up (by omega), l_up (by omega), e5 i j (by omega)]
                    have v684 : n6 428 84 = nn 428 84 + 1 := by rw [hn6, w_up_eq]
                    have v668 : n6 468 (nn 428 84) = x := by rw [hn6, w_up_ne (by decide), w_up_eq]
                    have mf6 : t_mf nn n6 := fun i j q1 q2 => f6 i j (by omega) (by omega)
                    have cf6 : t_cf mm m6 := fun i j q1 q2 q3 => by rw [hm6, l_up (by omega), l_up (by omega)]
                    have mo6 : t_mo nn n6 := fun y _ _ w => ⟨by rw [f6 _ _ (by omega) (by omega)]; exact w, f6 _ _ (by omega) (by omega)⟩
                    have I6 := t_mf.I I0 cf6 mf6
                    have T6 : tr_T g m6 n6 := by
                      refine ⟨I6, fun y y0 y1 => ?_, ?_, by rw [v684]; omega, fun k k0 k1 => ?_, by rw [f6 _ _ (by omega) (by omega)]; exact b6, by rw [hm6, w_up_ne (by decide), w_up_ne (by decide)]; exact b7⟩
                      · rw [hm6, l_up (by omega), l_up (by omega), l_up (by omega), l_up (by omega), f6 _ _ (by omega) (by omega), f6 _ _ (by omega) (by omega)]
                        exact b2 y y0 y1
                      · rw [v684, hm6, w_up_eq]
                      · rw [v684] at k1
                        by_cases qk : k = nn 428 84
                        · rw [qk, v668, hm6, w_up_ne (by decide), w_up_eq]
                        · rw [f6 _ _ (by omega) (by omega), hm6, l_up (by omega), l_up (by omega)]
                          exact b5 k k0 (by omega)
                    refine ⟨1, m6, fun X hX => ctk X ?_, cf0.tr cf6, mf0.tr mf6, Or.inr ⟨T6, by rw [v684, e84]; omega, ?_, by omega, by rw [f6 _ _ (by omega) (by omega)]; exact e470, by rw [f6 _ _ (by omega) (by omega)]; exact e469, fun w => absurd w hp3⟩⟩
                    · apply xr_tr_takesPage_23
                      rw [if_neg qc, if_neg qm, b3, if_neg (by omega), if_pos (by omega), w_32_id (x := nn 428 84 + 1) (by omega) (by omega), ← hm6]
                      refine ⟨by omega, ?_⟩
                      rw [if_neg (by decide)]
                      apply xr_tr_visit_141
                      rw [if_neg (by decide)]
                      exact hX
                    · have hl5 : nn 428 60 ≤ 200 := l20.1.2
                      have pgx : t_pg g nn x := by
                        have huN := hu0.resolve_left hp3
                        unfold t_pg
                        rw [← hb, e469, ← hAt, ← hct]
                        exact ⟨hx0, e470, ow, cmx, huN, by omega, by omega, by omega⟩
                      have pg6 := pgx.fr mf6 mo6 hl5
                      refine ⟨fun y y0 y1 w => ?_, fun k k0 k1 => ?_, by omega, fun k q1 q2 => ?_, fun i j q1 q2 q3 => by omega, fun y y0 y1 w1 w2 => ?_⟩
                      · obtain ⟨w1, w2⟩ := mo0 y y0 y1 w
                        obtain ⟨w3, w4⟩ := mo6 y y0 y1 w1
                        exact ⟨w3, w4.trans w2⟩
                      · rw [f6 _ _ (by omega) (by omega), hnn, w_up_ne (by decide), w_up_ne (by decide)]
                      · have ek : k = nn 428 84 := by omega
                        rw [ek, v668]
                        exact ⟨by omega, pg6, fun w => absurd rfl w⟩
                      · exfalso
                        by_cases qx : y = x
                        · rw [qx] at w2
                          exact t_ty_not (mf6.ty.mp w2.2.2) hp4
                        · have e1 := w2.1
                          rw [f6 _ _ (by omega) (by omega), (oth y qx).1] at e1
                          exact w1 e1
        · rw [if_pos rfl]
          refine sp_m_fail ?_
          exact bad p hp' (fun w => ow w.2.2) n3 e3
      -- Type and Parent
      have rpar : ∀ (p l6 : Int), ((p = 0 ∧ l6 = 1 ∧ ¬ (u ≠ 0 ∧ t_ty g nn x 4)) ∨ (p = 1 ∧ l6 = 0 ∧ u ≠ 0 ∧ t_ty g nn x 4)) → (p ≠ 0 ∨ t_ty g nn x 3) → u ≠ 0 → ∀ n2, e80 nn n2 → xc_m_rawEntry (d + 2 * (K + 1) + 11) b 238 n2 (fun r7 m7 => xc_m_dictNumber (d + 2 * (K + 1) + 11) r7 m7 (fun r8 m8 => if r8 = u then (xp_m_meet_132 (d + 2 * (K + 1) + 11) x deep b l6 m8 (fun _ n1 => t_V (c + (K + 1) + 7) g x u deep m n n1)) else (xc_m_fail (d + 2 * (K + 1) + 11) 10 x m8 (fun r9 m9 => t_V (c + (K + 1) + 7) g x u deep m n m9)))) := by
        intro p l6 hp hl qu n2 e2
        have hp' : (p = 0 ∧ ¬ (u ≠ 0 ∧ t_ty g nn x 4)) ∨ (p = 1 ∧ u ≠ 0 ∧ t_ty g nn x 4) := hp.imp (fun w => ⟨w.1, w.2.2⟩) (fun w => ⟨w.1, w.2.2⟩)
        have huN := hu0.resolve_left qu
        refine r_raw2 (d := d + 2 * (K + 1) + 5) I0 e2 t_mParent r0 h7 ?_
        refine r_dictNumber (d := d + 2 * (K + 1) + 7) I0 e2 no7 (fun n3 e3 => ?_)
        have tp := t_par I0 huN.2.1 no7
        by_cases q7 : o_dn nn (s_fd nn (s_wd 7) (g.2.1 b)) = u
        · rw [if_pos q7]
          exact k132 p l6 hp hl (Or.inr (tp.mp q7)) n3 e3
        · rw [if_neg q7]
          refine sp_m_fail ?_
          exact bad p hp' (fun w => w.2.1.elim qu (fun w2 => q7 (tp.mpr w2))) n3 e3
      rw [← hb]
      refine r_tent (d := d + 2 * (K + 1) + 4) I0 e80.rf t_mtype r0 h7 (fun n2 e2 _ => ?_)
      rw [show o_re nn (s_fd nn (s_wd 1) (g.2.1 b)) = o_en g nn b 1 from rfl]
      refine r_isName2 (d := d + 2 * (K + 1) + 5) I0 e2 t_mPages (I0.enn r0 h7) (fun w => ?_) (fun w => ?_)
      · rw [if_neg (by decide)]
        have w3 := ty3.mpr w
        have n4 : ¬ (u ≠ 0 ∧ t_ty g nn x 4) := fun z => t_ty_not w3 z.2
        by_cases qu : u = 0
        · rw [if_pos qu]
          exact k132 0 1 (Or.inl ⟨rfl, rfl, n4⟩) (Or.inr w3) (Or.inl qu) n2 e2
        · rw [if_neg qu]
          exact rpar 0 1 (Or.inl ⟨rfl, rfl, n4⟩) (Or.inr w3) qu n2 e2
      · rw [if_pos rfl]
        have nw3 : ¬ t_ty g nn x 3 := fun z => w (ty3.mp z)
        by_cases qu : u = 0
        · rw [if_pos qu]
          refine sp_m_fail ?_
          exact bad 0 (Or.inl ⟨rfl, fun z => z.1 qu⟩) (fun z => z.1.elim (fun z => z rfl) nw3) n2 e2
        · rw [if_neg qu]
          refine r_isName2 (d := d + 2 * (K + 1) + 5) I0 e2 t_mPage (I0.enn r0 h7) (fun w4 => ?_) (fun w4 => ?_)
          · rw [if_neg (by decide), if_neg qu]
            exact rpar 1 0 (Or.inr ⟨rfl, rfl, qu, ty4.mpr w4⟩) (Or.inl (by decide)) qu n2 e2
          · rw [if_pos rfl]
            refine sp_m_fail ?_
            exact bad 0 (Or.inl ⟨rfl, fun z => w4 (ty4.mp z.2)⟩) (fun z => z.1.elim (fun z => z rfl) nw3) n2 e2
    · rw [if_neg q]
      refine sp_m_fail ?_
      refine cf m n t_cf.rf t_mf.rf a6 10 _ 10 u (by decide) (by decide) (fun X hX => ?_)
      apply xr_tr_visit
      rw [if_pos (by omega), if_pos xr.2.1, ex, if_neg q]
      exact ⟨by omega, sp_tfl hX⟩
end OE
