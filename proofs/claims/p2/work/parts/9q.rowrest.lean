/-! ===== a section that is a row stream: the reference behind its dict ===== -/
theorem t_mtype : t_s 218 (s_wd 1) := ⟨by decide, by decide, by decide, _, rfl⟩
theorem t_mxrefname : t_s 294 (s_wd 29) := ⟨by decide, by decide, by decide, _, rfl⟩
theorem t_mlength : t_s 200 (s_wd 20) := ⟨by decide, by decide, by decide, _, rfl⟩
/-- the reference's: without Index a Size of 1 or more -/
def e_r3 (g : s_g) (n : w_M) (W : Int → Int) (L b q : Int) (es : List e_E) : Prop := e_r1 g n W L b q ∧ e_zo g n b ∧ ∃ o, e_by g n W L b q = some o ∧ e_ww g n b ∧ e_pv1 g n b ∧ e_pairs o (e_wv g n b 0) (e_wv g n b 1) (e_wv g n b 2) (e_pp g n b) 0 = some (es, (o.length : Int))
def e_rm (n n' : w_M) : Prop := ∀ i j : Int, ¬ (i = 428 ∧ ((21 ≤ j ∧ j ≤ 28) ∨ (37 ≤ j ∧ j ≤ 40) ∨ j = 75)) → ¬ (441 ≤ i ∧ i ≤ 450) → ¬ (464 ≤ i ∧ i ≤ 467) → ¬ (i = 440 ∧ n 428 17 ≤ j ∧ j < 140000) → n' i j = n i j
/-- names and kinds are the same -/
def e_5 (n n' : w_M) : Prop := ∀ a b : Int, 432 ≤ a → a ≤ 440 → n' a b = n a b
theorem e_rm.l {n n' : w_M} (h : e_rm n n') : l_mf n n' := fun i j q1 q2 q3 => h i j (by omega) (by omega) (by omega) (by omega)
section ST
variable {d : Nat} {g : s_g} {m m' m1 m2 m3 n n' n2 n1 : w_M} {Q : Int → w_M → Prop} {W : Int → Int} {L p q a b B v F x y k w : Int} {l : List Int}
theorem e_rm.rf : e_rm n n := fun _ _ _ _ _ _ => rfl
theorem e_rm.k17 (h : e_rm n n') : n' 428 17 = n 428 17 := h _ _ (by omega) (by omega) (by omega) (by omega)
theorem e_rm.tr (h : e_rm n n') (h2 : e_rm n' n2) : e_rm n n2 := fun i j q1 q2 q3 q4 => (h2 i j q1 q2 q3 (by rw [h.k17]; exact q4)).trans (h i j q1 q2 q3 q4)
theorem m_ag.rm (h : m_ag n n') : e_rm n n' := fun i j q1 q2 q3 q4 => h i j (by omega) q4
theorem e_mh.rm (h : e_mh n n') : e_rm n n' := fun i j q1 q2 q3 q4 => h i j (by omega) (by omega)
theorem z_mf.rm (h : z_mf n n') : e_rm n n' := fun i j q1 q2 q3 q4 => h i j (by omega) (by omega)
theorem z_mg.rm (h : z_mg n n') : e_rm n n' := fun i j q1 q2 q3 q4 => h i j (by omega) (by omega) (by omega)
theorem e_rm.s (h : e_rm n n') : s_mf n n' := by
  have e1 := h 428 15 (by omega) (by omega) (by omega) (by omega)
  have e2 := h 428 17 (by omega) (by omega) (by omega) (by omega)
  exact ⟨by omega, by omega, fun a b q1 q2 _ _ => h a b (by omega) (by omega) (by omega) (by omega), fun b q => h 440 b (by omega) (by omega) (by omega) (by omega)⟩
theorem e_5.fd (hf : e_5 n n') : ∀ L : List Int, s_fd n' l L = s_fd n l L := by
  intro L
  induction L with
  | nil => rfl
  | cons y L ih =>
    have e : s_is n' (n' 438 y) (n' 439 y) l ↔ s_is n (n 438 y) (n 439 y) l := by
      unfold s_is
      rw [hf 438 y (by decide) (by decide), hf 439 y (by decide) (by decide)]
      simp only [fun b => hf 440 b (by decide) (by decide)]
    by_cases z : s_is n (n 438 y) (n 439 y) l
    · rw [s_fd_y z, s_fd_y (e.mpr z)]
    · rw [s_fd_n z, s_fd_n (fun w => z (e.mp w)), ih]
theorem e_5.wh (hf : e_5 n n') : z_wh g n' q k w = z_wh g n q k w := by
  unfold z_wh
  rw [hf.fd, hf 432 _ (by decide) (by decide), hf 433 _ (by decide) (by decide)]
theorem e_5.ww (hf : e_5 n n') : e_ww g n' b ↔ e_ww g n b := by
  unfold e_ww e_wd
  rw [hf.fd]
  simp only [fun x => hf 432 x (by decide) (by decide), fun x => hf 433 x (by decide) (by decide)]
theorem e_5.wv (hf : e_5 n n') (t : Nat) : e_wv g n' b t = e_wv g n b t := by
  unfold e_wv
  rw [hf.fd, hf 433 _ (by decide) (by decide)]
theorem e_5.pl (hf : e_5 n n') : ∀ L : List Int, e_pl n' L = e_pl n L
  | [] => rfl
  | [_] => rfl
  | a :: c :: r => by
    show (n' 433 a, n' 433 c) :: e_pl n' r = (n 433 a, n 433 c) :: e_pl n r
    rw [hf 433 a (by decide) (by decide), hf 433 c (by decide) (by decide), e_5.pl hf r]
theorem e_5.pp (hf : e_5 n n') : e_pp g n' b = e_pp g n b := by
  unfold e_pp
  rw [hf.fd, hf.wh, hf.pl]
theorem e_5.pv1 (hf : e_5 n n') : e_pv1 g n' b ↔ e_pv1 g n b := by
  unfold e_pv1 e_pv e_ix
  rw [hf.fd, hf.wh]
  simp only [fun x => hf 432 x (by decide) (by decide), fun x => hf 433 x (by decide) (by decide)]
theorem e_5.nk (hf : e_5 n n') : s_nk n' y l ↔ s_nk n y l := by
  unfold s_nk s_is
  rw [hf 432 y (by decide) (by decide), hf 435 y (by decide) (by decide), hf 436 y (by decide) (by decide)]
  simp only [fun b => hf 440 b (by decide) (by decide)]
theorem e_5.ns (hf : e_5 n n') : z_ns g n' y = z_ns g n y := by
  unfold z_ns
  rw [hf 432 y (by decide) (by decide)]
theorem e_5.pm (hf : e_5 n n') {j : Nat} : z_pm g n' y j = z_pm g n y j := by
  unfold z_pm
  rw [hf 432 y (by decide) (by decide)]
theorem e_5.fl (hf : e_5 n n') : z_fl n' y = z_fl n y := by
  by_cases z : s_nk n y (s_wd 23)
  · rw [z_fl_1 z, z_fl_1 (hf.nk.mpr z)]
  · rw [z_fl_0 z, z_fl_0 (fun w => z (hf.nk.mp w))]
theorem e_5.co (hf : e_5 n n') : z_co g n' y q = z_co g n y q := by
  unfold z_co
  rw [hf.fl, hf.wh, hf.wh, hf 432 q (by decide) (by decide)]
theorem e_5.do (hf : e_5 n n') : ∀ (l : List Int) (j : Nat), z_do g n' p j l = z_do g n p j l := by
  intro l
  induction l with
  | nil => intro j; rfl
  | cons y l ih =>
    intro j
    show (z_fl n' y, z_co g n' y (z_pm g n' p j)) :: z_do g n' p (j + 1) l = (z_fl n y, z_co g n y (z_pm g n p j)) :: z_do g n p (j + 1) l
    rw [hf.fl, hf.pm, hf.co, ih]
theorem e_5_zo (hf : e_5 n n') : e_zo g n' b ↔ e_zo g n b := by
  unfold e_zo z_ok z_n1 z_n2 z_n3 z_ip2
  rw [hf.fd, hf.fd]
  simp only [fun x => hf 432 x (by decide) (by decide), hf.ns, hf.nk, hf.wh, hf.pm]
theorem e_5_by (hf : e_5 n n') : e_by g n' W L b q = e_by g n W L b q := by
  unfold e_by
  rw [hf.fd, hf.fd, hf.wh, hf.ns, hf.do]
/-- a part of that name stays -/
theorem s_fd.fr (hst : s_st g m n) (hmf : s_mf n n') (hq : 0 ≤ b ∧ b < n 428 15) (h7 : n 432 b = 7) : s_fd n' l (g.2.1 b) = s_fd n l (g.2.1 b) := by
  have di := hst.di hq h7
  have fd : ∀ (L : List Int), (∀ y ∈ L, 0 ≤ y ∧ y < n 428 15 ∧ 0 ≤ m 364 (g.1 y)) → s_fd n' l L = s_fd n l L := by
    intro L
    induction L with
    | nil => intro _; rfl
    | cons y L ih =>
      intro hm
      have y0 := hm y (List.mem_cons_self ..)
      have nd := hst.2.1 y y0.1 y0.2.1
      have e8 := hmf.2.2.1 438 y (by decide) (by decide) y0.1 y0.2.1
      have e9 := hmf.2.2.1 439 y (by decide) (by decide) y0.1 y0.2.1
      have ky := nd.2.2.2.2.2.2.2.2.2.2
      have e : s_is n' (n' 438 y) (n' 439 y) l ↔ s_is n (n 438 y) (n 439 y) l := by
        rw [e8, e9]
        unfold s_is
        have cell : ∀ i : Nat, n 439 y = l.length → i < l.length → n' 440 (n 438 y + i) = n 440 (n 438 y + i) := by
          intro i h1 h2
          rcases ky with w | ⟨_, _, _, _, t1, t2, t3, t4, t5, t6⟩
          · omega
          · exact hmf.2.2.2 _ (by omega)
        constructor
        · intro ⟨h1, h2⟩
          exact ⟨h1, fun i hi => by rw [← cell i h1 hi]; exact h2 i hi⟩
        · intro ⟨h1, h2⟩
          exact ⟨h1, fun i hi => by rw [cell i h1 hi]; exact h2 i hi⟩
      by_cases z : s_is n (n 438 y) (n 439 y) l
      · rw [s_fd_y z, s_fd_y (e.mpr z)]
      · rw [s_fd_n z, s_fd_n (fun w => z (e.mp w)), ih (fun u hu => hm u (List.mem_cons_of_mem _ hu))]
  exact fd (g.2.1 b) (fun y hy => by have := di.2.2 y hy; exact ⟨this.1, this.2.1, this.2.2.1⟩)
theorem s_nk.fr (hst : s_st g m n) (hmf : s_mf n n') (hy : s_no n y) : s_nk n' y l ↔ s_nk n y l := by
  unfold s_nk
  rcases hy with e | ⟨y0, y1⟩
  · constructor <;> intro z <;> omega
  · have e2 := hmf.2.2.1 432 y (by decide) (by decide) y0 y1
    have e5 := hmf.2.2.1 435 y (by decide) (by decide) y0 y1
    have e6 := hmf.2.2.1 436 y (by decide) (by decide) y0 y1
    rw [e2, e5, e6]
    have nd := hst.2.1 y y0 y1
    by_cases k4 : n 432 y = 4
    · obtain ⟨_, t1, t2, t3, t4, t5, t6⟩ := nd.2.2.2.2.2.2.2.1 (Or.inl k4)
      have cell : ∀ i : Nat, n 435 y = l.length → i < l.length → n' 440 (n 436 y + i) = n 440 (n 436 y + i) := fun i h1 h2 => hmf.2.2.2 _ (by omega)
      unfold s_is
      constructor
      · intro ⟨h0, h1, h2, h3⟩
        exact ⟨h0, h1, h2, fun i hi => by rw [← cell i h2 hi]; exact h3 i hi⟩
      · intro ⟨h0, h1, h2, h3⟩
        exact ⟨h0, h1, h2, fun i hi => by rw [cell i h2 hi]; exact h3 i hi⟩
    · constructor
      · intro z; exact absurd z.2.1 k4
      · intro z; exact absurd z.2.1 k4
theorem r_rowRest (h : s_st g m n) (G : e_G n W L q) (hF : e_F n W L) (h27 : n 428 27 = 0) (hT : 0 ≤ n 428 34 ∧ n 428 34 ≤ 49000) (hb : 0 ≤ b ∧ b < n 428 15) (h7 : n 432 b = 7)
    (H1 : ∀ n' es, e_rm n n' → e_r3 g n' W L b q es → n' 428 27 = 0 → e_rT n' = es.foldl e_rt (e_rT n) → Q b n')
    (H0 : ∀ n' n2, e_rm n n' → (¬ ∃ es, e_r3 g n' W L b q es) → e_rm n' n2 → n2 428 27 ≠ 0 → ∀ r, Q r n2) :
    xc_m_rawEntry (d + 14) b 218 n (fun r7 m7 => xc_m_isName (d + 14) r7 294 m7 (fun r8 m8 => if r8 = 0 then (xc_m_fail (d + 14) 3 B m8 (fun r9 m9 => Q (-1) m9)) else (xc_m_wholeAt (d + 14) b 200 (-1) m8 (fun r10 m10 => xc_m_streamStart (d + 14) m10 (fun r11 m11 => if r11 < 0 then (xp_m_rowStream_155 (d + 14) B b r10 r11 0 m11 Q) else (if r10 < 0 then (xp_m_rowStream_155 (d + 14) B b r10 r11 0 m11 Q) else (xc_m_streamEnd (d + 14) r11 r10 m11 (fun r12 m12 => if r12 = 0 then (xp_m_rowStream_155 (d + 14) B b r10 r11 0 m12 Q) else (xc_m_token (d + 14) m12 (fun r13 m13 => xp_m_rowStream_155 (d + 14) B b r10 r11 1 m13 Q)))))))))) := by
  have bd := h.1
  unfold s_bd at bd
  obtain ⟨hv, hL2, h21, q0, qL⟩ := id G.1
  have L8 := hF.2.1
  have tno := h.fd (l := s_wd 1) hb h7
  -- a fault
  have fl : ∀ (n1 : w_M) (c r : Int), e_rm n n1 → n1 428 27 = 0 → c ≠ 0 → (¬ ∃ es, e_r3 g n1 W L b q es) → Q r (m_fl n1 c B) := fun n1 c r r1 z hc no => H0 n1 _ r1 no m_fl_emh.rm (m_fl_ne z hc) r
  have e1fr : ∀ {n1 : w_M}, e_rm n n1 → (e_r1 g n1 W L b q ↔ e_r1 g n W L b q) := by
    intro n1 r1
    unfold e_r1
    rw [z_wh.fr h s_ex.rf r1.s hb h7, s_fd.fr h r1.s hb h7, s_nk.fr h r1.s tno]
  have no3 : ∀ {n1 : w_M}, e_rm n n1 → ¬ e_r1 g n W L b q → ¬ ∃ es, e_r3 g n1 W L b q es := fun r1 z ⟨es, y⟩ => z ((e1fr r1).mp y.1)
  refine r_rawEntry (d := d + 8) h t_mtype hb h7 ?_
  refine r_nk (d := d + 8) h t_mxrefname tno (fun zx => ?_) (fun zx => ?_)
  · rw [if_neg (by decide)]
    refine r_wholeAt (d := d + 6) h t_mlength hb h7 ?_
    obtain ⟨ln, hln⟩ : ∃ ln, ln = z_wh g n b 20 (-1) := ⟨_, rfl⟩
    rw [← hln]
    refine r_streamStart (d := d + 8) G (fun n1 t1 => ?_)
    obtain ⟨s, hs⟩ : ∃ s, s = e_ss W L q := ⟨_, rfl⟩
    rw [← hs]
    have er1 : e_r1 g n W L b q ↔ (0 ≤ s ∧ 0 ≤ ln ∧ ln ≤ L - s ∧ u_cl W L (s + ln)) := by
      unfold e_r1
      rw [← hs, ← hln]
      exact ⟨fun z => ⟨z.1, z.2.1, z.2.2.1, z.2.2.2.1⟩, fun z => ⟨z.1, z.2.1, z.2.2.1, z.2.2.2, zx⟩⟩
    have z27 : ∀ {n1 : w_M}, m_ag n n1 → n1 428 27 = 0 := fun t => by rw [t _ _ (by omega) (by omega)]; exact h27
    have bad : ∀ n1, m_ag n n1 → ¬ e_r1 g n W L b q → xp_m_rowStream_155 (d + 14) B b ln s 0 n1 Q := by
      intro n1 t z
      apply xr_m_rowStream_155
      rw [if_pos rfl]
      refine sp_m_fail ?_
      exact fl n1 3 (-1) t.rm (z27 t) (by decide) (no3 t.rm z)
    by_cases q1 : s < 0
    · rw [if_pos q1]
      exact bad n1 t1 (fun z => by rw [er1] at z; omega)
    · rw [if_neg q1]
      by_cases q2 : ln < 0
      · rw [if_pos q2]
        exact bad n1 t1 (fun z => by rw [er1] at z; omega)
      · rw [if_neg q2]
        have sq : q ≤ s := by
          have k := e_kw_r (W := W) q0 qL
          have e : e_ss W L q = -1 ∨ e_ss W L q = u_b W (e_kw W L q + 6) := by
            by_cases z : t_is W L (e_kw W L q) e_stream
            · exact Or.inr (if_pos z)
            · exact Or.inl (if_neg z)
          rcases e with e | e
          · omega
          · rw [hs, e]
            rw [hs, e] at q1
            unfold u_b at q1 ⊢
            by_cases z1 : W (e_kw W L q + 6) = 13 ∧ W (e_kw W L q + 6 + 1) = 10
            · rw [if_pos z1]; omega
            · rw [if_neg z1] at q1 ⊢
              by_cases z2 : W (e_kw W L q + 6) = 10
              · rw [if_pos z2]; omega
              · rw [if_neg z2] at q1; omega
        apply xr_m_streamEnd
        have e3 : n1 428 3 = L := by rw [t1 _ _ (by omega) (by omega)]; exact hF.2.2.1
        have sL : s ≤ L ∨ L < s := by omega
        have lnr : ln ≤ 2147483647 ∨ 2147483647 < ln := by omega
        have sr : s ≤ 100000 := by
          have : e_ss W L q = -1 ∨ e_ss W L q = u_b W (e_kw W L q + 6) := by
            by_cases z : t_is W L (e_kw W L q) e_stream
            · exact Or.inr (if_pos z)
            · exact Or.inl (if_neg z)
          rcases this with e | e
          · omega
          · rw [hs, e]
            unfold u_b
            have k := e_kw_r (W := W) q0 qL
            split
            · omega
            · split <;> omega
        rw [e3, w_32_id (x := L - s) (by omega) (by omega)]
        by_cases q3 : L - s < ln
        · rw [if_pos q3, if_pos rfl]
          exact bad n1 t1 (fun z => by rw [er1] at z; omega)
        · rw [if_neg q3, w_32_id (x := s + ln) (by omega) (by omega)]
          have t2 : m_ag n (w_up n1 428 21 (s + ln)) := t1.up (by decide)
          have G2 : e_G (w_up n1 428 21 (s + ln)) W L (s + ln) := G.ma t2.ema w_up_eq (by omega) (by omega)
          refine r_tok (d := d + 8) G2 (fun n3 t3 k3 => ?_)
          have t13 := t2.tr t3
          have k2 := e_kw_r (W := W) (L := L) (p := s + ln) (by omega) (by omega)
          have v3 : v_m n3 W L := hv.fr G.2.1 t13.fr
          refine r_isW (d := d + 8) k3 v3 t_mendstream (by decide) (by decide) (by omega) (fun w w21 => ⟨Or.inr rfl, ?_⟩) (fun w => ⟨Or.inl rfl, ?_⟩)
          · rw [if_neg (by decide)]
            have w21 : n3 428 21 = e_kw W L (s + ln) + 9 := w21
            have in9 : e_kw W L (s + ln) + 9 ≤ L := by
              have r := g_len_le W (L - e_kw W L (s + ln)).toNat (e_kw W L (s + ln))
              have := w.1
              have l9 : e_endstream.length = 9 := rfl
              omega
            have G3 : e_G n3 W L (e_kw W L (s + ln) + 9) := G.ma t13.ema w21 (by omega) in9
            refine r_tok (d := d + 9) G3 (fun n4 t4 k4 => ?_)
            have t14 := t13.tr t4
            have v4 : v_m n4 W L := hv.fr G.2.1 t14.fr
            have k5 := e_kw_r (W := W) (L := L) (p := e_kw W L (s + ln) + 9) (by omega) (by omega)
            apply xr_m_rowStream_155
            rw [if_neg (by decide)]
            refine r_isW (d := d + 9) k4 v4 t_mendobj (by decide) (by decide) (by omega) (fun w2 w22 => ?_) (fun w2 => ?_)
            · rw [if_neg (by decide)]
              have R1 : e_r1 g n W L b q := er1.mpr ⟨by omega, by omega, by omega, w, w2⟩
              have st4 : s_st g m n4 := h.go s_cf.rf t14.rm.s rfl rfl (t14 _ _ (by omega) (by omega)) (t14 _ _ (by omega) (by omega))
              have hb4 : 0 ≤ b ∧ b < n4 428 15 := by rw [t14 _ _ (by omega) (by omega)]; exact hb
              have h74 : n4 432 b = 7 := by rw [t14 _ _ (by omega) (by omega)]; exact h7
              have R14 : e_r1 g n4 W L b q := (e1fr t14.rm).mpr R1
              have ln4 : z_wh g n4 b 20 (-1) = ln := by rw [z_wh.fr h s_ex.rf t14.rm.s hb h7]; exact hln.symm
              have eby : e_by g n4 W L b q = z_run (z_do g n4 (s_fd n4 (s_wd 22) (g.2.1 b)) 0 (z_ns g n4 (s_fd n4 (s_wd 21) (g.2.1 b)))) (fun i => W (s + i)) ln := by unfold e_by; rw [← hs, ln4]
              have e34 : n4 428 34 = n 428 34 := t14 _ _ (by omega) (by omega)
              refine r_decode (d := d + 2) (I := fun i => W (s + i)) st4 hb4 h74 rfl rfl ⟨by omega, by omega, by omega⟩ (fun i i0 i1 => by rw [t14 _ _ (by omega) (by omega)]; exact hF.2.2.2 (s + i) (by omega) (by omega)) (by rw [e34]; exact hT) (z27 t14) (fun z r n5 m5 => ?_) (fun zo z r n5 m5 => ?_) (fun o zo z n5 m5 at5 by5 ol => ?_)
              · refine r_gd ?_
                have z5 : n5 428 27 = 0 := by rw [m5 _ _ (by omega) (by omega)]; exact z27 t14
                rw [(m_fl_v z5).1, if_pos (show (if (7 : Int) = 0 then (1 : Int) else 0) = 0 by decide)]
                exact H0 n4 _ t14.rm (fun ⟨es, y⟩ => z y.2.1) (m5.rm.tr m_fl_emh.rm) (m_fl_ne z5 (by decide)) (-1)
              · refine r_gd ?_
                have z5 : n5 428 27 = 0 := by rw [m5 _ _ (by omega) (by omega)]; exact z27 t14
                rw [(m_fl_v z5).1, if_pos (show (if (8 : Int) = 0 then (1 : Int) else 0) = 0 by decide)]
                refine H0 n4 _ t14.rm (fun ⟨es, y⟩ => ?_) (m5.rm.tr m_fl_emh.rm) (m_fl_ne z5 (by decide)) (-1)
                obtain ⟨_, _, o, y, _⟩ := y
                rw [eby, z] at y
                cases y
              · refine r_gd ?_
                have z5 : n5 428 27 = 0 := by rw [m5 _ _ (by omega) (by omega) (by omega)]; exact z27 t14
                rw [z5, if_neg (show ¬ (if (0 : Int) = 0 then (1 : Int) else 0) = 0 by decide)]
                have f5 : e_5 n4 n5 := fun a c w1 w2 => m5 a c (by omega) (by omega) (by omega)
                have st5 : s_st g m n5 := st4.go s_cf.rf m5.rm.s rfl rfl (m5 _ _ (by omega) (by omega) (by omega)) (m5 _ _ (by omega) (by omega) (by omega))
                have e345 : n5 428 34 = n4 428 34 := m5 _ _ (by omega) (by omega) (by omega)
                have ey : e_by g n4 W L b q = some o := eby.trans z
                refine r_entries1 (d := d + 5) (o := o) st5 (by rw [m5 _ _ (by omega) (by omega) (by omega)]; exact hb4) (by rw [m5 _ _ (by omega) (by omega) (by omega)]; exact h74) (by rw [e345, e34]; exact hT) ol (fun j hj => by rw [e345]; exact at5 j hj) z5 (fun es y1 y2 y3 n6 m6 z6 T6 => ?_) (fun y n6 m6 z6 => ?_)
                · -- all is well; what is said, is said of the memory at the end
                  have f6 : e_5 n4 n6 := fun a c w1 w2 => by rw [m6 a c (by omega) (by omega)]; exact f5 a c w1 w2
                  have r6 : e_rm n n6 := t14.rm.tr (m5.rm.tr m6.rm)
                  rw [f5.ww] at y1
                  rw [f5.pv1] at y2
                  rw [f5.wv, f5.wv, f5.wv, f5.pp] at y3
                  refine H1 n6 es r6 ⟨(e1fr r6).mpr R1, ?_, o, ?_, f6.ww.mpr y1, f6.pv1.mpr y2, by rw [f6.wv, f6.wv, f6.wv, f6.pp]; exact y3⟩ z6 ?_
                  · exact (e_5_zo f6).mpr zo
                  · rw [e_5_by f6]; exact ey
                  · rw [T6]
                    have : e_rT n5 = e_rT n := by
                      unfold e_rT
                      have cc : ∀ i x : Int, 464 ≤ i → i ≤ 466 → n5 i x = n i x := fun i x w1 w2 => by rw [m5 i x (by omega) (by omega) (by omega), t14 i x (by omega) (by omega)]
                      rw [funext (fun x => cc 464 x (by omega) (by omega)), funext (fun x => cc 465 x (by omega) (by omega)), funext (fun x => cc 466 x (by omega) (by omega)), m5 428 75 (by omega) (by omega) (by omega), t14 428 75 (by omega) (by omega)]
                    rw [this]
                · refine H0 n4 n6 t14.rm (fun ⟨es, y4⟩ => ?_) (m5.rm.tr m6.rm) z6 b
                  obtain ⟨_, _, o', u1, u2, u3, u4⟩ := y4
                  rw [ey] at u1
                  rw [← Option.some.inj u1] at u4
                  exact y ⟨f5.ww.mpr u2, f5.pv1.mpr u3, es, by rw [f5.wv, f5.wv, f5.wv, f5.pp]; exact u4⟩
            · rw [if_pos rfl]
              refine sp_m_fail ?_
              exact fl n4 3 (-1) t14.rm (z27 t14) (by decide) (no3 t14.rm (fun z => w2 (er1.mp z).2.2.2.2))
          · rw [if_pos rfl]
            exact bad n3 t13 (fun z => w (er1.mp z).2.2.2.1)
  · rw [if_pos rfl]
    refine sp_m_fail ?_
    exact fl n 3 (-1) e_rm.rf h27 (by decide) (no3 e_rm.rf (fun z => zx z.2.2.2.2))
end ST
