/-! ===== a section that is a row stream: the class ===== -/
/-- the stream's bytes are there, and it is one of rows -/
def e_r1 (g : s_g) (n : w_M) (W : Int → Int) (L b q : Int) : Prop := 0 ≤ e_ss W L q ∧ 0 ≤ z_wh g n b 20 (-1) ∧ z_wh g n b 20 (-1) ≤ L - e_ss W L q ∧ u_cl W L (e_ss W L q + z_wh g n b 20 (-1)) ∧ s_nk n (s_fd n (s_wd 1) (g.2.1 b)) (s_wd 29)
/-- what its bytes decode to -/
noncomputable def e_by (g : s_g) (n : w_M) (W : Int → Int) (L b q : Int) : Option (List Int) := z_run (z_do g n (s_fd n (s_wd 22) (g.2.1 b)) 0 (z_ns g n (s_fd n (s_wd 21) (g.2.1 b)))) (fun i => W (e_ss W L q + i)) (z_wh g n b 20 (-1))
def e_zo (g : s_g) (n : w_M) (b : Int) : Prop := z_ok g n (s_fd n (s_wd 21) (g.2.1 b)) (s_fd n (s_wd 22) (g.2.1 b))
/-- all of it is right; what it tells -/
def e_r2 (g : s_g) (n : w_M) (W : Int → Int) (L b q : Int) (es : List e_E) : Prop := e_r1 g n W L b q ∧ e_zo g n b ∧ ∃ o, e_by g n W L b q = some o ∧ e_ww g n b ∧ e_pv g n b ∧ e_pairs o (e_wv g n b 0) (e_wv g n b 1) (e_wv g n b 2) (e_pp g n b) 0 = some (es, (o.length : Int))
section SS
variable {d : Nat} {g : s_g} {m m' m1 m2 m3 n n' : w_M} {Q : Int → w_M → Prop} {W : Int → Int} {L p q a b B v F x : Int}
theorem sp_headsRows (h : e_J m W L a) (hp : 0 ≤ p ∧ p ≤ L) (h3 : m 376 3 = 0) (H1 : e_hd W L p → 1 ≤ e_un W L (e_p1 W L p) → e_un W L (e_p1 W L p) < 200 → e_un W L (e_p2 W L p) = 0 → ∀ m', c_ch m m' 376 → e_J m' W L (e_p3 W L p + 3) → Q 1 m')
    (H0 : ¬ (e_hd W L p ∧ 1 ≤ e_un W L (e_p1 W L p) ∧ e_un W L (e_p1 W L p) < 200 ∧ e_un W L (e_p2 W L p) = 0) → ∀ m', c_ch m m' 376 → Q 0 m') : xc_se_headsRows (d + 8) p m Q := by
  have hJ0 := h.mv hp.1 hp.2
  rw [h3, Int.zero_add] at hJ0
  have c0 : c_ch m (w_up m 376 4 p) 376 := c_ch.rf.up
  apply xr_se_headsRows
  refine sp_unsigned (d := d + 4) hJ0.1 rfl (fun u1 m1 c1 s1 => ?_) (fun u1 m1 c1 s1 => ?_)
  · have u1 : t_un W L (e_p1 W L p) := u1
    have r1 := e_un0 u1
    have e1 : g_va (g_s W (k_w W (L - p).toNat false p) (g_len W (L - k_w W (L - p).toNat false p).toNat (k_w W (L - p).toNat false p))) (W (k_w W (L - p).toNat false p)) = e_un W L (e_p1 W L p) := rfl
    rw [e1, if_neg (by omega)]
    have s1 : c_st m1 376 W L (e_ue W L (e_p1 W L p)) := s1
    refine sp_unsigned (d := d + 4) s1 rfl (fun u2 m2 c2 s2 => ?_) (fun u2 m2 c2 s2 => ?_)
    · have u2 : t_un W L (e_p2 W L p) := u2
      have r2 := e_un0 u2
      have e2 : g_va (g_s W (k_w W (L - e_ue W L (e_p1 W L p)).toNat false (e_ue W L (e_p1 W L p))) (g_len W (L - k_w W (L - e_ue W L (e_p1 W L p)).toNat false (e_ue W L (e_p1 W L p))).toNat (k_w W (L - e_ue W L (e_p1 W L p)).toNat false (e_ue W L (e_p1 W L p))))) (W (k_w W (L - e_ue W L (e_p1 W L p)).toNat false (e_ue W L (e_p1 W L p)))) = e_un W L (e_p2 W L p) := rfl
      have s2 : c_st m2 376 W L (e_ue W L (e_p2 W L p)) := s2
      rw [e2]
      have c02 : c_ch m m2 376 := (c0.tr c1).tr c2
      apply xr_se_headsRows_31
      by_cases q1 : e_un W L (e_p1 W L p) < 1
      · rw [if_pos q1]
        exact H0 (by omega) m2 c02
      · rw [if_neg q1]
        by_cases q2 : e_un W L (e_p1 W L p) < 200
        · rw [if_pos q2]
          by_cases q3 : e_un W L (e_p2 W L p) = 0
          · rw [if_pos q3]
            refine sp_word (d := d + 1) (p' := e_p3 W L p) t_cobj s2 rfl (fun w m3 c3 s3 => ?_) (fun w m3 c3 s3 => ?_)
            · rw [if_neg (by decide)]
              exact H1 ⟨u1, u2, w⟩ (by omega) q2 q3 m3 (c02.tr c3) (h.ch (c02.tr c3) s3)
            · rw [if_pos rfl]
              exact H0 (fun z => w z.1.2.2) m3 (c02.tr c3)
          · rw [if_neg q3]
            exact H0 (fun z => q3 z.2.2.2) m2 c02
        · rw [if_neg q2]
          exact H0 (fun z => q2 z.2.2.1) m2 c02
    · rw [show ((-1 : Int)) = -1 from rfl]
      apply xr_se_headsRows_31
      have no : ∀ m', c_ch m m' 376 → Q 0 m' := fun m' c' => H0 (fun z => u2 z.1.2.1) m' c'
      have c02 : c_ch m m2 376 := (c0.tr c1).tr c2
      refine z_ite (fun _ => no m2 c02) (fun _ => ?_)
      refine z_ite (fun _ => ?_) (fun _ => no m2 c02)
      rw [if_neg (by decide)]
      exact no m2 c02
  · rw [if_pos (by decide)]
    apply xr_se_headsRows_31
    rw [if_pos (by decide)]
    exact H0 (fun z => u1 z.1.1) m1 (c0.tr c1)
/-- rows: what stays, but for the told numbers -/
def e_ro (m m' : w_M) : Prop := ∀ i j : Int, ¬ (i = 376 ∧ (j = 4 ∨ j = 6 ∨ j = 7 ∨ (11 ≤ j ∧ j ≤ 16))) → ¬ (367 ≤ i ∧ i ≤ 369) → ¬ (i = 378 ∧ 6 ≤ j) → ¬ (i = 379 ∧ 6 ≤ j) → ¬ (380 ≤ i ∧ i ≤ 385) → ¬ (387 ≤ i ∧ i ≤ 390) → ¬ (i = 391 ∧ (j = 11 ∨ j = 12)) → i ≠ 393 → m' i j = m i j
theorem e_ro.rf : e_ro m m := fun _ _ _ _ _ _ _ _ _ _ => rfl
theorem e_ro.tr (h : e_ro m m') (h2 : e_ro m' m2) : e_ro m m2 := fun i j q1 q2 q3 q4 q5 q6 q7 q8 => (h2 i j q1 q2 q3 q4 q5 q6 q7 q8).trans (h i j q1 q2 q3 q4 q5 q6 q7 q8)
theorem e_cf.ro (h : e_cf m m') : e_ro m m' := fun i j q1 q2 q3 q4 q5 q6 q7 q8 => h i j q1 q2 q7
theorem c_ch.ro (h : c_ch m m' 376) : e_ro m m' := h.ecf.ro
theorem z_cf.ro (h : z_cf m m') : e_ro m m' := fun i j q1 q2 q3 q4 q5 q6 q7 q8 => h i j q3 q4 q5 q6
theorem e_ro.big (h : e_ro m m') : ∀ i j : Int, ¬ (366 ≤ i) → m' i j = m i j := fun i j q => h i j (by omega) (by omega) (by omega) (by omega) (by omega) (by omega) (by omega) (by omega)
theorem sp_readRows (h : s_st g m n) (hw : s_kw m) (hJ : e_J m W L q) (h3 : m 376 3 = 0) (hL : L ≤ 8000) (hb : 0 ≤ b ∧ b < n 428 15) (h7 : n 432 b = 7)
    (H1 : ∀ es, e_r2 g n W L b q es → ∀ m' p', e_ro m m' → m' 376 6 = m 376 6 → e_J m' W L p' → e_cT m' = es.foldl e_ct (e_cT m) → Q 1 m') (H0 : (¬ ∃ es, e_r2 g n W L b q es) → ∀ m', e_ro m m' → Q 0 m') : xc_se_readRows (d + 8) (g.1 b) B 395 m Q := by
  have no : s_no n b := Or.inr hb
  have kd := h.kd no
  have ek : s_kd n b = n 432 b := if_neg (by omega)
  rw [s_up_y hb.1, ek] at kd
  have hok := hJ.1.1.1
  have T : ∀ {m m' : w_M}, e_ro m m' → (∀ i : Int, 367 ≤ i → i ≤ 369 → ∀ k, m' i k = m i k) → m' 391 11 = m 391 11 → e_cT m' = e_cT m := by
    intro m m' _ z1 z2
    unfold e_cT
    rw [z2, funext (z1 367 (by decide) (by decide)), funext (z1 368 (by decide) (by decide)), funext (z1 369 (by decide) (by decide))]
  apply xr_se_readRows
  refine sp_st_kindOf ?_
  rw [kd, if_pos h7]
  have hbd := e_bd hJ
  have kwr := e_kw_r (W := W) (L := L) (p := q) hbd.2.2.2.2.2.1 hbd.2.2.2.2.2.2
  refine sp_word (d := d + 1) (p' := e_kw W L q) t_cstream hJ.1 rfl (fun w m1 c1 s1 => ?_) (fun w m1 c1 s1 => ?_)
  · rw [if_neg (by decide)]
    have s1 : c_st m1 376 W L (e_kw W L q + 6) := s1
    have ess : e_ss W L q = u_b W (e_kw W L q + 6) := if_pos w
    have J1 : e_J m1 W L (e_kw W L q + 6) := hJ.ch c1 s1
    have m13 : m1 376 3 = 0 := by rw [c1 _ _ (by omega)]; exact h3
    have h1 := h.sm2 (fun i j z => c1.ecf.big i j z)
    have hw1 := hw.sm2 (fun i j z => c1.ecf.big i j z)
    obtain ⟨s, hs⟩ : ∃ s, s = e_ss W L q := ⟨_, rfl⟩
    obtain ⟨ln, hln⟩ : ∃ ln, ln = z_wh g n b 20 (-1) := ⟨_, rfl⟩
    rw [← hs] at ess
    have sr : s = -1 ∨ (0 ≤ s ∧ s ≤ L) := by
      rw [ess]
      have b1 := e_bd J1
      unfold u_b
      by_cases z1 : W (e_kw W L q + 6) = 13 ∧ W (e_kw W L q + 6 + 1) = 10
      · rw [if_pos z1]
        have := hok.2.2 (e_kw W L q + 6 + 1)
        omega
      · rw [if_neg z1]
        by_cases z2 : W (e_kw W L q + 6) = 10
        · rw [if_pos z2]
          have := hok.2.2 (e_kw W L q + 6)
          omega
        · rw [if_neg z2]; exact Or.inl rfl
    have er1 : e_r1 g n W L b q ↔ (0 ≤ s ∧ 0 ≤ ln ∧ ln ≤ L - s ∧ u_cl W L (s + ln) ∧ s_nk n (s_fd n (s_wd 1) (g.2.1 b)) (s_wd 29)) := by rw [hs, hln]; exact Iff.rfl
    -- behind the ends
    have body : xc_st_wholeEntry (d + 7) (g.1 b) 20 m1 (fun r4 m4 => xc_ps_closes (d + 7) 376 (if s < 0 then -1 else m1 376 3 + s) r4 m4 (fun r5 m5 => if r5 = 0 then (Q 0 m5) else (xc_st_entry (d + 7) (g.1 b) 1 m5 (fun r6 m6 => xc_st_isName (d + 7) r6 29 m6 (fun r7 m7 => if r7 = 0 then (Q 0 m7) else (xc_fi_decode (d + 7) (g.1 b) 395 (if s < 0 then -1 else m1 376 3 + s) r4 m7 (fun r8 m8 => if r8 = 0 then (xc_st_entry (d + 7) (g.1 b) 30 m8 (fun r9 m9 => xc_se_readWidths (d + 7) r9 m9 (fun r10 m10 => if r10 = 0 then (Q 0 m10) else (xc_se_readPairs (d + 7) (g.1 b) B m10 (fun r11 m11 => if r11 = 0 then (Q 0 m11) else (Q 1 m11)))))) else (xc_ps_fail (d + 7) 376 r8 B m8 (fun r12 m12 => Q 0 m12))))))))) := by
      refine sp_wholeEntry (d := d + 3) h1 hw1 (by decide) hb h7 ?_
      rw [← hln]
      refine sp_closes (d := d) (p := e_kw W L q + 6) (b := s) J1.1 (by omega) (fun z1 z2 z3 z4 m2 c2 s2 => ?_) (fun z m2 c2 ex => ?_) (by omega)
      · rw [if_neg (by decide)]
        have c02 : c_ch m m2 376 := c1.tr c2
        have h2 := h.sm2 (fun i j z => c02.ecf.big i j z)
        have hw2 := hw.sm2 (fun i j z => c02.ecf.big i j z)
        have J2 : e_J m2 W L (u_ce W L (s + max (-1) ln)) := hJ.ch c02 s2
        have mx : max (-1) ln = ln := by omega
        rw [mx] at z3 z4 ⊢
        have tno := h.fd (l := s_wd 1) hb h7
        refine sp_st_entry (d := d + 4) h2 hw2 (by decide) hb h7 ?_
        refine sp_st_isName (d := d + 4) h2 hw2 (by decide) tno (fun zx => ?_) (fun zx => ?_)
        · rw [if_neg (by decide), if_neg (by omega), m13, Int.zero_add]
          have R1 : e_r1 g n W L b q := er1.mpr ⟨z1, by omega, z3, z4, zx⟩
          have l395 : w_ln 395 = 8000 := w_ln_eq s0_395
          have m23 : m2 376 3 = 0 := by rw [c02 _ _ (by omega)]; exact h3
          have hin : z_in m2 395 s ln (fun i => W (s + i)) := by
            refine ⟨by decide, ⟨8000, s0_395⟩, ⟨1, 8000, s0_395, by decide, by decide⟩, z1, by omega, by omega, by omega, by omega, fun i i0 i1 => ?_⟩
            have v := J2.1.1.2.2.2.2.2.2.2.2.2 (s + i) (by omega) (by omega)
            rw [J2.2, m23, Int.zero_add] at v
            exact v
          have eby : e_by g n W L b q = z_run (z_do g n (s_fd n (s_wd 22) (g.2.1 b)) 0 (z_ns g n (s_fd n (s_wd 21) (g.2.1 b)))) (fun i => W (s + i)) ln := by unfold e_by; rw [← hs, ← hln]
          have bad : ∀ c : Int, c ≠ 0 → ∀ m8, z_cf m2 m8 → (¬ ∃ es, e_r2 g n W L b q es) → (if c = 0 then (xc_st_entry (d + 7) (g.1 b) 30 m8 (fun r9 m9 => xc_se_readWidths (d + 7) r9 m9 (fun r10 m10 => if r10 = 0 then (Q 0 m10) else (xc_se_readPairs (d + 7) (g.1 b) B m10 (fun r11 m11 => if r11 = 0 then (Q 0 m11) else (Q 1 m11)))))) else (xc_ps_fail (d + 7) 376 c B m8 (fun r12 m12 => Q 0 m12))) := by
            intro c hc m8 c8 z
            rw [if_neg hc]
            exact sp_fail1 (Or.inl rfl) (fun m' c' _ => H0 z m' (c02.ro.tr (c8.ro.tr (fun i j q1 q2 q3 q4 q5 q6 q7 q8 => c' i j (by omega)))))
          refine sp_fi_decode (d := d) h2 hw2 hb h7 rfl rfl (by decide) hin (fun z m8 c8 => bad 7 (by decide) m8 c8 (fun ⟨es, w⟩ => z w.2.1)) (fun zo z m8 c8 => bad 8 (by decide) m8 c8 (fun ⟨es, w⟩ => by
            obtain ⟨_, _, o, w, _⟩ := w
            rw [eby, z] at w
            cases w)) (fun o zo z R m8 hR c8 e8 e7 at8 by8 ol => ?_)
          rw [if_pos rfl]
          have ey : e_by g n W L b q = some o := eby.trans z
          have nope : ¬ (e_ww g n b ∧ e_pv g n b ∧ ∃ es, e_pairs o (e_wv g n b 0) (e_wv g n b 1) (e_wv g n b 2) (e_pp g n b) 0 = some (es, (o.length : Int))) → ¬ ∃ es, e_r2 g n W L b q es := by
            intro w ⟨es, _, _, o', y1, y2, y3, y4⟩
            rw [ey] at y1
            rw [← Option.some.inj y1] at y4
            exact w ⟨y2, y3, es, y4⟩
          have r8 : e_ro m m8 := c02.ro.tr c8.ro
          have h8 := h.sm2 r8.big
          have hw8 := hw.sm2 r8.big
          have wno := h.fd (l := s_wd 30) hb h7
          refine sp_st_entry (d := d + 4) h8 hw8 (by decide) hb h7 ?_
          refine sp_readWidths (d := d + 3) h8 wno (fun w1 w2 w3 m9 f9 v9 => ?_) (fun w m9 f9 => ?_)
          · rw [if_neg (by decide)]
            have ww : e_ww g n b := ⟨w1, w2, w3⟩
            have r9 : e_ro m8 m9 := fun i j q1 q2 q3 q4 q5 q6 q7 q8 => f9 i j q8
            have h9 := h8.sm2 r9.big
            have hw9 := hw8.sm2 r9.big
            have mem : ∀ t : Nat, t < 3 → 0 ≤ e_wv g n b t ∧ e_wv g n b t ≤ 4 := by
              intro t ht
              have : (g.2.1 (s_fd n (s_wd 30) (g.2.1 b))).getD t 0 ∈ g.2.1 (s_fd n (s_wd 30) (g.2.1 b)) := by
                rw [List.getD_eq_getElem?_getD, List.getElem?_eq_getElem (by have := w3.1; omega)]
                exact List.getElem_mem _
              have := w3.2 _ this
              unfold e_wv
              omega
            have R9 : e_R m9 R o (e_wv g n b 0) (e_wv g n b 1) (e_wv g n b 2) := by
              refine ⟨hR, by rw [f9 _ _ (by decide)]; exact e7, by rw [f9 _ _ (by decide)]; exact e8, ol, fun i hi => ?_, v9 0 (by decide), v9 1 (by decide), v9 2 (by decide), mem 0 (by decide), mem 1 (by decide), mem 2 (by decide)⟩
              rw [f9 _ _ (by omega)]
              exact at8 i hi
            have T9 : e_cT m9 = e_cT m := by
              refine T (r8.tr r9) (fun i i0 i1 k => ?_) ?_
              · rw [f9 _ _ (by omega), c8 _ _ (by omega) (by omega) (by omega) (by omega), c02 _ _ (by omega)]
              · rw [f9 _ _ (by omega), c8 _ _ (by omega) (by omega) (by omega) (by omega), c02 _ _ (by omega)]
            have k96 : ∀ k : Int, m9 376 k = m2 376 k := fun k => by rw [f9 _ _ (by decide), c8 _ _ (by omega) (by omega) (by omega) (by omega)]
            refine sp_readPairs (d := d + 2) h9 hw9 hb h7 R9 (fun es y1 y2 m10 c10 g10 T10 => ?_) (fun y m10 c10 => ?_)
            · rw [if_neg (by decide)]
              refine H1 es ⟨R1, zo, o, ey, ww, y1, y2⟩ m10 (u_ce W L (s + ln)) ((r8.tr r9).tr c10.ro) (by rw [g10, k96, c02 _ _ (by omega)]) ?_ (by rw [T10, T9])
              rw [mx] at J2
              have k10 : ∀ k : Int, m10 376 k = m2 376 k := fun k => (g10 k).trans (k96 k)
              exact ⟨J2.1.far k10 (fun k => by rw [J2.2, c10 _ _ (by omega) (by omega) (by omega), f9 _ _ (by decide), c8 _ _ (by omega) (by omega) (by omega) (by omega)]), by rw [k10]; exact J2.2⟩
            · rw [if_pos rfl]
              exact H0 (nope (fun z => y ⟨z.2.1, z.2.2⟩)) m10 ((r8.tr r9).tr c10.ro)
          · rw [if_pos rfl]
            exact H0 (nope (fun z => w z.1)) m9 (r8.tr (fun i j q1 q2 q3 q4 q5 q6 q7 q8 => f9 i j q8))
        · rw [if_pos rfl]
          exact H0 (fun ⟨es, y⟩ => zx y.1.2.2.2.2) m2 c02.ro
      · rw [if_pos rfl]
        refine H0 (fun ⟨es, y⟩ => z ?_) m2 (c1.tr c2).ro
        have := er1.mp y.1
        have mx : max (-1) ln = ln := by omega
        rw [mx]
        exact ⟨this.1, this.2.1, this.2.2.1, this.2.2.2.1⟩
    refine sp_body (d := d + 5) s1 (fun z => ?_) (fun z => ?_)
    · rw [← ess] at z ⊢
      rw [if_neg (by omega)] at body
      exact body
    · rw [← ess] at z
      rw [if_pos z] at body
      exact body
  · rw [if_pos rfl]
    refine H0 (fun ⟨es, y⟩ => ?_) m1 c1.ro
    have z : e_ss W L q = -1 := if_neg w
    have := y.1.1
    omega
end SS
