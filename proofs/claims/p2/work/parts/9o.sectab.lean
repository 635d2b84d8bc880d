/-! ===== a section that is a table, both sides ===== -/
theorem r_ns376 : w_ns [(2, 376), (2, 26)] := by
  intro v hv
  rcases List.mem_cons.mp hv with e | hv
  · subst e; show (0 : Int) ≤ 376; decide
  · rcases List.mem_cons.mp hv with e | hv
    · subst e; show (0 : Int) ≤ 26; decide
    · cases hv
theorem r_ns391 {B : Int} (hB : 0 ≤ B ∧ B ≤ 2147483647) : w_ns [(2, 391), (0, B)] := by
  intro v hv
  rcases List.mem_cons.mp hv with e | hv
  · subst e; show (0 : Int) ≤ 391; decide
  · rcases List.mem_cons.mp hv with e | hv
    · subst e; show -2147483648 ≤ B ∧ B < 2147483648; omega
    · cases hv
theorem e_C0_nm {m : w_M} {j B : Int} (hn : w_nm (w_G0 sC) m) (hj : 0 ≤ j ∧ j ≤ 9) (hB : 0 ≤ B ∧ B ≤ 2147483647) : w_nm (w_G0 sC) (e_C0 m j B) := by
  have h1 : w_nm (w_G0 sC) (w_up m 392 j B) := w_st_nm hn (by decide) s_392 (w_EC (by decide)) (by show 0 ≤ j ∧ j < 10; omega) (by show -2147483648 ≤ B ∧ B < 2147483648; omega)
  have h2 : w_nm (w_G0 sC) (w_up (w_up m 392 j B) 391 6 (j + 1)) := w_pf_nm (k := 6) (s := 0) h1 (by decide) s_391 (w_EC (by decide)) rfl (by show -2147483648 ≤ j + 1 ∧ j + 1 < 2147483648; omega)
  have h3 : w_nm (w_G0 sC) (w_up (w_up (w_up m 392 j B) 391 6 (j + 1)) 391 11 (-1)) := w_pf_nm (k := 11) (s := 0) h2 (by decide) s_391 (w_EC (by decide)) rfl (by show (-2147483648 : Int) ≤ -1 ∧ (-1 : Int) < 2147483648; decide)
  exact w_pf_nm (k := 4) (s := 0) h3 (by decide) s_376 (w_EC (by decide)) rfl (by show -2147483648 ≤ B ∧ B < 2147483648; omega)
section SR
variable {d : Nat} {g g' : s_g} {m m' m0 m1 m2 m3 m5 n n' n1 n2 n3 n4 n5 : w_M} {Q : Int → w_M → Prop} {W : Int → Int} {L p a b B v e F j l3 l4 C : Int} {es : List e_E}
/-- nodes and bytes that stand -/
theorem e_cf.s (h : e_cf m m') : s_cf m m' := by
  have e6 := h 359 6 (by omega) (by omega) (by omega)
  have e7 := h 359 7 (by omega) (by omega) (by omega)
  exact ⟨by omega, by omega, fun a b q1 q2 _ _ => h a b (by omega) (by omega) (by omega), fun b _ => h 365 b (by omega) (by omega) (by omega)⟩
theorem e_mf.s (h : e_mf n n') : s_mf n n' := by
  have e1 := h 428 15 (by omega) (by omega) (by omega)
  have e2 := h 428 17 (by omega) (by omega) (by omega)
  exact ⟨by omega, by omega, fun a b q1 q2 _ _ => h a b (by omega) (by omega) (by omega), fun b q => h 440 b (by omega) (by omega) (by omega)⟩
theorem e_P.s (h : e_P n n2 j B L) : s_mf n n2 := by
  have e1 := h.1 428 15 (by omega) (by omega) (by omega)
  have e2 := h.1 428 17 (by omega) (by omega) (by omega)
  exact ⟨by omega, by omega, fun a b q1 q2 _ _ => h.1 a b (by omega) (by omega) (by omega), fun b q => h.1 440 b (by omega) (by omega) (by omega)⟩
theorem s_st.go (h : s_st g m n) (hc : s_cf m m') (hm : s_mf n n') (h6 : m' 359 6 = m 359 6) (h7 : m' 359 7 = m 359 7) (h15 : n' 428 15 = n 428 15) (h17 : n' 428 17 = n 428 17) : s_st g m' n' := by
  refine h.fr hc hm h15 ?_
  have := h.1
  unfold s_bd at this ⊢
  rw [h6, h7, h15, h17]
  exact this
/-- behind an object that both read: as before it -/
theorem e_X.of (h : e_X g m n W L) (hJ : s_J g' m5 n5 376 W L p) (hk : s_kw m5) (h2 : m5 376 2 = 395) (h3 : m5 376 3 = 0) (h10 : m5 376 10 = 1) (hF : e_F n5 W L) (h32 : n5 428 32 = n 428 32) : e_X g' m5 n5 W L := by
  obtain ⟨j1, j2, j3, j4, j5, j6, j7, j8, j9, j10⟩ := hJ
  have x32 := h.2.2.2.2.2.2.2.2.2.1
  refine ⟨j1, hk, ⟨p, j2, h2⟩, h3, h10, j6, hF, j7, j8, ?_⟩
  unfold s_md at j9
  rw [h32] at j9 ⊢
  rcases j9 with z | z
  · exact z
  · exact absurd z.1 x32
theorem e_F.fr (h : e_F n W L) (hf : l_mf n n') : e_F n' W L := by
  obtain ⟨f1, f2, f3, f4⟩ := h
  exact ⟨f1, f2, by rw [hf _ _ (by omega) (by omega) (by omega)]; exact f3, fun i i0 i1 => by rw [hf _ _ (by omega) (by omega) (by omega)]; exact f4 i i0 i1⟩
/-- behind a fault the reference's section ends -/
theorem r_218_bad (h : n 428 27 ≠ 0) (hQ : Q (-1) n) : xp_m_section_218 (d + 1) B l4 b n Q := by
  apply xr_m_section_218
  refine r_gd ?_
  rw [if_neg h, if_pos rfl]
  exact hQ
/-- no dict: the class's section ends -/
theorem c_198_bad (hQ : ∀ m' : w_M, (∀ i j : Int, ¬ (i = 376 ∧ (j = 6 ∨ j = 7)) → m' i j = m i j) → m' 376 6 ≠ 0 → Q (-1) m') : xp_se_read_198 (d + 1) B F l3 C (-1) m Q := by
  apply xr_se_read_198
  rw [if_pos (by decide)]
  exact sp_fail1 (Or.inl rfl) (fun m' c' z => hQ m' c' (z (by decide)))
theorem e_table (h : e_Y g m n W L) (hm : w_nm (w_G0 sC) m) (hb : ¬ e_bad n B L) (hB : 0 ≤ B ∧ B ≤ 2147483647) (hx : t_is W L B e_xref) (hP : e_P n n2 (n 428 61) B L) (h21 : n2 428 21 = B + 4) :
    xc_m_table (d + 60) B n2 (fun r6 m6 => xp_m_section_218 (d + 60) B 1 r6 m6 (fun r' n1 => xc_se_read (d + 60) B 395 m (fun r m1 => e_post m n W L r m1 r' n1))) := by
  obtain ⟨X, y0, y1, y2, y3, y4, y5, yz⟩ := id h
  have hBL : B < L := Int.not_le.mp (fun z => hb (Or.inr (Or.inr z)))
  obtain ⟨C0J, C0l, C0T, C0f⟩ := e_C0.J h ⟨hB.1, by omega⟩
  have st := X.1
  have bd := st.1
  have F0 := X.2.2.2.2.2.2.1
  obtain ⟨v2, F2⟩ := hP.vm F0
  have xl : B + 4 ≤ L := by
    have := hx.1
    have r := g_len_le W (L - B).toNat B
    have l4 : e_xref.length = 4 := rfl
    omega
  obtain ⟨m0, hm0⟩ : ∃ m0, m0 = e_C0 m (n 428 61) B := ⟨_, rfl⟩
  rw [← hm0] at C0J C0l C0T C0f
  -- the class stands in a memory of numbers
  have j9 : n 428 61 ≠ 10 := fun z => hb (Or.inr (Or.inl z))
  have nm0 : w_nm (w_G0 sC) m0 := by rw [hm0]; exact e_C0_nm hm (by omega) ⟨hB.1, by omega⟩
  -- the word xref
  have wh : xc_ps_wordHere (d + 59) 376 26 m0 (fun r1 m1 => r1 = 1 ∧ c_ch m0 m1 376 ∧ e_J m1 W L (B + 4)) :=
    sp_wordHere (d := d + 53) t_cxref C0J.1 (fun _ m1 c s => ⟨rfl, c, C0J.ch c s⟩) (fun z => absurd hx z)
  obtain ⟨r1, m1, wrun, nm1, wr, wc, wJ⟩ := r_get wh nm0 r_ns376
  -- the class's run, when what comes behind is known
  have start : ∀ Q, xp_se_read_152 (d + 59) B 395 0 m1 Q → xc_se_read (d + 60) B 395 m Q := by
    intro Q hQ
    refine c_sec (d := d + 58) h hB hb ?_
    rw [← hm0]
    refine wrun.to ?_
    rw [wr, if_neg (by decide)]
    exact hQ
  have T1 : e_cT m1 = (m 367, m 368, m 369, -1) := by
    rw [← C0T]
    unfold e_cT
    rw [wc 391 11 (by omega), funext (fun x => wc 367 x (by omega)), funext (fun x => wc 368 x (by omega)), funext (fun x => wc 369 x (by omega))]
  have l1 : l_cf m m1 := C0l.tr wc.l
  -- a fault of both, early
  have early : (∀ es e, e_tab W L (L - (B + 4) + 1).toNat false (B + 4) = some (es, e) → ¬ t_is W L (e_kw W L e) e_trailer) → ∀ n', l_mf n n' → n' 428 27 ≠ 0 → ∀ r6, xp_m_section_218 (d + 60) B 1 r6 n' (fun r' n1 => xc_se_read (d + 60) B 395 m (fun r m1 => e_post m n W L r m1 r' n1)) := by
    intro z n' fn h27 r6
    refine r_218_bad (d := d + 59) h27 ?_
    refine start _ ?_
    apply xr_se_read_152
    rw [if_pos rfl]
    refine sp_readTable (d := d + 51) wJ (fun es e z1 z2 => absurd z2 (z es e z1)) (fun _ m2 c2 => ?_)
    rw [if_pos rfl]
    exact c_198_bad (d := d + 58) (fun m' f6 h6 => ⟨l1.tr (c2.l.tr (fun i j q1 q2 q3 q4 q5 => f6 i j (by omega))), fn, Or.inl ⟨rfl, h6, h27⟩⟩)
  have eK : e_K n2 W L (B + 4) := ⟨⟨v2, by have := F0.2.1; omega, h21, by omega, xl⟩, Or.inl hP.2.2.2.2.1, by rw [hP.1 _ _ (by omega) (by omega) (by omega)]; exact X.2.2.2.2.2.2.2.1⟩
  apply xr_m_table
  refine r_table_2 (d := d + 55) (L - (B + 4) + 1).toNat (B + 4) 0 n2 (by omega) (Or.inl rfl) eK (by have := F0.2.1; omega) (fun es e z1 n3 c3 K3 T3 => ?_) (fun z1 n3 c3 h27 => ?_)
  · -- the rows are right
    have z1 : e_tab W L (L - (B + 4) + 1).toNat false (B + 4) = some (es, e) := z1
    have c23 : s_mf n n3 := hP.s.tr c3.s
    have l3' : l_mf n n3 := hP.l.tr c3.l
    have p17 : n3 428 17 = n 428 17 := by rw [c3 428 17 (by omega) (by omega) (by omega), hP.1 _ _ (by omega) (by omega) (by omega)]
    have room : ∀ q, 0 ≤ q → 0 ≤ n 428 17 ∧ n 428 17 + L ≤ 140000 + q := fun q q0 => by
      obtain ⟨_, _, _, _, _, _, _, _, _, _, _, _, u1, u2, u3⟩ := X
      have := F0.2.1
      omega
    have G3 : e_G n3 W L e := by
      refine ⟨K3.1, ?_, by rw [p17]; exact (room e K3.1.2.2.2.1).1, by rw [p17]; exact (room e K3.1.2.2.2.1).2⟩
      rcases K3.2.1 with w | w
      · exact Or.inl w
      · exact Or.inr w.1
    have e0 := K3.1.2.2.2.1
    have eL := K3.1.2.2.2.2
    have ke := e_kw_r (W := W) e0 eL
    apply xr_m_table_327
    refine r_tok (d := d + 54) G3 (fun n4 t4 k4 => ?_)
    have v4 : v_m n4 W L := G3.1.1.fr G3.2.1 t4.fr
    refine r_isW (d := d + 54) k4 v4 t_mtrailer (by decide) (by decide) (by omega) (fun w w21 => ?_) (fun w => ?_)
    · rw [if_neg (by decide)]
      have w21 : n4 428 21 = e_kw W L e + 7 := w21
      have inL : e_kw W L e + 7 ≤ L := by
        have r := g_len_le W (L - e_kw W L e).toNat (e_kw W L e)
        have := w.1
        have l7 : e_trailer.length = 7 := rfl
        omega
      have G4 : e_G n4 W L (e_kw W L e + 7) := G3.ma t4.ema w21 (by omega) inL
      -- the class, up to its dict
      have rt : xc_se_readTable (d + 59) B m1 (fun r2 m2 => r2 = 1 ∧ e_cf m1 m2 ∧ m2 376 6 = m1 376 6 ∧ e_J m2 W L (e_kw W L e + 7) ∧ e_cT m2 = es.foldl e_ct (e_cT m1)) :=
        sp_readTable (d := d + 51) wJ (fun es' e' u1 u2 m2 c2 g2 j2 T2 _ _ => by
          rw [z1] at u1
          have u3 := Prod.mk.inj (Option.some.inj u1)
          rw [← u3.1] at T2
          rw [← u3.2] at j2
          exact ⟨rfl, c2, g2, j2, T2⟩) (fun u => absurd w (u es e z1))
      obtain ⟨r2, m2, trun, nm2, tr, tc, t6, tJ, tT⟩ := r_get rt nm1 (r_ns391 hB)
      refine r_tok (d := d + 54) G4 (fun n5 t5 k5 => ?_)
      have nn5 : w_nm (w_G0 sM) n5 → True := fun _ => trivial
      -- both in front of the dict
      have sc2 : s_cf m m2 := by
        have u : s_cf m m1 := by
          have a1 := wc 359 6 (by omega)
          have a2 := wc 359 7 (by omega)
          have b1 := C0f 359 6 (by omega) (by omega) (by omega)
          have b2 := C0f 359 7 (by omega) (by omega) (by omega)
          exact ⟨by omega, by omega, fun i k q1 q2 _ _ => by rw [wc i k (by omega)]; exact C0f i k (by omega) (by omega) (by omega), fun k _ => by rw [wc 365 k (by omega)]; exact C0f _ _ (by omega) (by omega) (by omega)⟩
        exact u.tr tc.s
      have q6 : m2 359 6 = m 359 6 := by rw [tc _ _ (by omega) (by omega) (by omega), wc _ _ (by omega)]; exact C0f _ _ (by omega) (by omega) (by omega)
      have q7 : m2 359 7 = m 359 7 := by rw [tc _ _ (by omega) (by omega) (by omega), wc _ _ (by omega)]; exact C0f _ _ (by omega) (by omega) (by omega)
      have sm5 : s_mf n n5 := (c23.tr t4.fr.mf).tr t5.fr.mf
      have n5o : ∀ k : Int, ¬ ((18 ≤ k ∧ k ≤ 28) ∨ k = 75) → n5 428 k = n 428 k := fun k z => by
        rw [t5 _ _ (by omega) (by omega), t4 _ _ (by omega) (by omega), c3 _ _ (by omega) (by omega) (by omega), hP.1 _ _ (by omega) (by omega) (by omega)]
      have st5 : s_st g m2 n5 := st.go sc2 sm5 q6 q7 (n5o _ (by omega)) (n5o _ (by omega))
      have m2o : ∀ k : Int, ¬ (k = 4 ∨ k = 6 ∨ k = 7 ∨ (11 ≤ k ∧ k ≤ 16)) → m2 376 k = m 376 k := fun k z => by
        rw [tc _ _ (by omega) (by omega) (by omega), wc _ _ (by omega)]
        exact C0f _ _ (by omega) (by omega) (by omega)
      have m26 : m2 376 6 = 0 := by
        rw [t6, wc _ _ (by omega), C0f _ _ (by omega) (by omega) (by omega)]
        exact X.2.2.2.2.2.1
      have h527 : n5 428 27 = 0 := by
        rw [t5 _ _ (by omega) (by omega), t4 _ _ (by omega) (by omega)]
        exact K3.2.2
      have h518 : n5 428 18 = 430 := by
        rw [t5 _ _ (by omega) (by omega), t4 _ _ (by omega) (by omega), c3 _ _ (by omega) (by omega) (by omega)]
        exact hP.2.2.2.2.1
      have v5 : v_m n5 W L := v4.fr (by rw [t4 _ _ (by omega) (by omega)]; exact G3.2.1) t5.fr
      have J5 : s_J g m2 n5 376 W L (e_kw W L e + 7) := X.J tJ st5 m26 h527 v5 h518 (fun k z => m2o k (by omega)) q6 q7 (fun k z => n5o k (by omega))
      have kw2 : s_kw m2 := X.2.1.fr sc2 bd
      refine w_C.nm (fun nm5 => ?_)
      obtain ⟨r, m6, r', n6, crun, nm6, mrun, nm6', sR⟩ := s_objE (d := d + 5) J5 nm2 nm5 (by rw [m2o 10 (by omega)]; exact X.2.2.2.2.1) k5
      refine mrun.to ?_
      -- the class's run up to here
      have upto : ∀ Q, xp_se_read_198 (d + 59) B 395 0 (m2 359 6) r m6 Q → xc_se_read (d + 60) B 395 m Q := by
        intro Q hQ
        refine start _ ?_
        apply xr_se_read_152
        rw [if_pos rfl]
        refine trun.to ?_
        rw [tr, if_neg (by decide)]
        exact crun.to hQ
      have l2 : l_cf m m2 := l1.tr tc.l
      have l5 : l_mf n n5 := (l3'.tr t4.l).tr t5.l
      rcases sR with sB | sO
      · -- a fault in the dict
        obtain ⟨u1, u2, u3, u4, u5, u6⟩ := sB
        have f27 : n6 428 27 ≠ 0 := by rw [← u3]; exact u2
        have l6 : l_cf m m6 := l2.tr (u5.l st5.1)
        have l6' : l_mf n n6 := l5.tr u6.l
        refine r_gd ?_
        rw [if_neg f27, if_pos rfl]
        refine r_218_bad (d := d + 59) f27 ?_
        refine upto _ ?_
        rw [u1]
        exact c_198_bad (d := d + 58) (fun m' f6 h6 => ⟨l6.tr (fun i j q1 q2 q3 q4 q5 => f6 i j (by omega)), l6', Or.inl ⟨rfl, h6, f27⟩⟩)
      · obtain ⟨g', e', o1, o2, o3, o4, o5, o6, o7, o8, o9⟩ := sO
        obtain ⟨p1, p2, p3, p4, p5, p6, p7, p8, p9⟩ := o9
        have l6 : l_cf m m6 := l2.tr (o7.l st5.1)
        have l6' : l_mf n n6 := l5.tr o8.l
        have f27 : n6 428 27 = 0 := o5.2.2.2.2.2.2.1
        have b15 := st5.1
        unfold s_bd at b15
        have b16 := o5.1.1
        unfold s_bd at b16
        have nd := o5.1.2.1 (n5 428 15) (by omega) p7
        refine r_gd ?_
        rw [if_pos f27, if_neg (by decide), o2]
        refine ⟨by omega, ?_⟩
        have kc : f_st_kindOf m6 (m2 359 6) = n6 432 (n5 428 15) := by
          rw [← p1, f_kind_v ⟨by have := nd.1; omega, nd.2.1⟩ (by omega)]
          exact nd.2.2.1
        by_cases k7 : n6 432 (n5 428 15) = 7
        · rw [if_pos k7]
          have cm2 : ∀ i k : Int, ¬ (i = 376) → ¬ (359 ≤ i ∧ i ≤ 365) → m6 i k = m2 i k := fun i k q1 q2 => o7.2.2 i k (by omega) (by omega) (by omega) (by omega)
          have cn5 : ∀ i k : Int, ¬ (i = 428) → ¬ (432 ≤ i ∧ i ≤ 440) → n6 i k = n5 i k := fun i k q1 q2 => o8.2.2 i k (by omega) (by omega) (by omega)
          have cn2 : ∀ k : Int, ¬ ((15 ≤ k ∧ k ≤ 31) ∨ k = 75) → n6 428 k = n 428 k := fun k z => by
            rw [o8.2.2 _ _ (by omega) (by omega) (by omega)]
            exact n5o k (by omega)
          have cP : ∀ k : Int, k = 2 ∨ k = 3 ∨ k = 10 → m6 376 k = m 376 k := fun k z => by
            rw [o7.2.2 _ _ (by omega) (by omega) (by omega) (by omega)]
            exact m2o k (by omega)
          have X6 : e_X g' m6 n6 W L := X.of o5 (kw2.fr (o7.cf (Or.inl rfl)) st5.1) (by rw [o7.2.2 _ _ (by omega) (by omega) (by omega) (by omega)]; exact tJ.2) (by rw [cP 3 (by omega)]; exact X.2.2.2.1) (by rw [cP 10 (by omega)]; exact X.2.2.2.2.1) (F0.fr l6') (by rw [cn2 32 (by omega)])
          have T6 : e_cT m6 = es.foldl e_ct (m 367, m 368, m 369, -1) := by
            have : e_cT m6 = e_cT m2 := by
              unfold e_cT
              rw [cm2 391 11 (by omega) (by omega), funext (fun x => cm2 367 x (by omega) (by omega)), funext (fun x => cm2 368 x (by omega) (by omega)), funext (fun x => cm2 369 x (by omega) (by omega))]
            rw [this, tT, T1]
          have T6' : e_rT n6 = es.foldl e_rt (e_rT n2) := by
            rw [← T3]
            unfold e_rT
            rw [o8.2.2 428 75 (by omega) (by omega) (by omega), t5 428 75 (by omega) (by omega), t4 428 75 (by omega) (by omega)]
            have cc : ∀ i x : Int, 464 ≤ i → i ≤ 466 → n6 i x = n3 i x := fun i x q1 q2 => by rw [cn5 i x (by omega) (by omega), t5 _ _ (by omega) (by omega), t4 _ _ (by omega) (by omega)]
            rw [funext (fun x => cc 464 x (by omega) (by omega)), funext (fun x => cc 465 x (by omega) (by omega)), funext (fun x => cc 466 x (by omega) (by omega))]
          have cN : ∀ i k : Int, ¬ (i = 428) → ¬ (432 ≤ i ∧ i ≤ 440) → ¬ (464 ≤ i ∧ i ≤ 466) → ¬ (i = 463 ∧ k = n 428 61) → n6 i k = n i k := fun i k q1 q2 q3 q4 => by
            rw [cn5 i k q1 q2, t5 _ _ (by omega) (by omega), t4 _ _ (by omega) (by omega), c3 _ _ (by omega) (by omega) (by omega), hP.1 _ _ q4 (by omega) (by omega)]
          have cM : ∀ i k : Int, ¬ (i = 376) → ¬ (359 ≤ i ∧ i ≤ 369) → ¬ (i = 391 ∧ (k = 6 ∨ k = 11 ∨ k = 12)) → ¬ (i = 392 ∧ k = n 428 61) → m6 i k = m i k := fun i k q1 q2 q3 q4 => by
            rw [cm2 i k q1 (by omega), tc _ _ (by omega) (by omega) (by omega), wc _ _ (by omega), C0f _ _ q4 (by omega) (by omega)]
          have hrg : s_rg g' m6 n6 (m2 359 6) (n5 428 15) (m6 359 6) (g'.2.2.2.2.2 (n5 428 15)) := by rw [p6]; exact p9
          have tail := e_tail (d := d + 52) (es := es) (C := m2 359 6) (l3 := 0) (l4 := 1) h hb hB (Or.inr ⟨rfl, rfl⟩) X6 (by
            have : n5 428 15 = n 428 15 := n5o _ (by omega)
            rw [← this]; exact o6) (sc2.tr (o7.cf (Or.inl rfl))) (sm5.tr o8.mf) l6 l6' ⟨by omega, p7⟩ k7 p2 p3 (by rw [p6]) hrg (by omega) (e_tab_ok _ _ _ es e z1) T6 ⟨e_rT n2, fun k k0 k1 => hP.2.2.1 k k0 k1, hP.2.2.2.1, T6'⟩ (by
              rw [cm2 391 6 (by omega) (by omega), tc _ _ (by omega) (by omega) (by omega), wc _ _ (by omega), hm0]
              unfold e_C0
              rw [w_up_ne (by decide), w_up_nb (by decide), w_up_eq]) (fun i i0 i1 => cM 392 i (by omega) (by omega) (by omega) (by omega)) (by
              rw [cm2 392 _ (by omega) (by omega), tc _ _ (by omega) (by omega) (by omega), wc _ _ (by omega), hm0]
              unfold e_C0
              rw [w_up_ne (by decide), w_up_ne (by decide), w_up_ne (by decide), w_up_eq]) (fun i i0 i1 => cM 391 i (by omega) (by omega) (by omega) (by omega)) (fun i i0 i1 => cN 463 i (by omega) (by omega) (by omega) (by omega)) (by
              rw [cn5 463 _ (by omega) (by omega), t5 _ _ (by omega) (by omega), t4 _ _ (by omega) (by omega), c3 _ _ (by omega) (by omega) (by omega)]
              exact hP.2.1) (fun i z => cn2 i (by omega)) (fun i k q1 q2 => cN i k (by omega) (by omega) (by omega) (by omega))
          refine tail.more (fun r' n1 hr => ?_)
          refine upto _ ?_
          apply xr_se_read_198
          rw [o1, if_neg (by omega), if_pos rfl]
          refine sp_st_kindOf ?_
          rw [kc, if_pos k7]
          rw [p1] at hr
          exact hr
        · rw [if_neg k7]
          refine sp_m_fail ?_
          have f27' := m_fl_ne (c := 3) (v := B) f27 (by decide)
          refine r_218_bad (d := d + 59) f27' ?_
          refine upto _ ?_
          apply xr_se_read_198
          rw [o1, if_neg (by omega), if_pos rfl]
          refine sp_st_kindOf ?_
          rw [kc, if_neg k7]
          exact sp_fail1 (Or.inl rfl) (fun m' f6 h6 => ⟨l6.tr (fun i j q1 q2 q3 q4 q5 => f6 i j (by omega)), l6'.tr m_fl_l, Or.inl ⟨rfl, h6 (by decide), f27'⟩⟩)
    · rw [if_pos rfl]
      refine sp_m_fail ?_
      have h427 : n4 428 27 = 0 := by rw [t4 _ _ (by omega) (by omega)]; exact K3.2.2
      exact early (fun es' e' u => by
        rw [z1] at u
        rw [← (Prod.mk.inj (Option.some.inj u)).2]
        exact w) _ ((l3'.tr t4.l).tr m_fl_l) (m_fl_ne h427 (by decide)) (-1)
  · have z1 : e_tab W L (L - (B + 4) + 1).toNat false (B + 4) = none := z1
    exact early (fun es' e' u => by rw [z1] at u; cases u) n3 (hP.l.tr c3.l) h27 (-1)
end SR
