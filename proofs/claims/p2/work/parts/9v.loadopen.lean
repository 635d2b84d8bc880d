/-! ===== load begins, both sides ===== -/
def e_lo (n n' : w_M) : Prop := ∀ i j : Int, i ≠ 430 → ¬ (i = 428 ∧ (j = 1 ∨ j = 3 ∨ j = 6 ∨ j = 88 ∨ j = 104 ∨ j = 15 ∨ j = 17 ∨ j = 34 ∨ j = 67 ∨ j = 29 ∨ j = 30 ∨ j = 31 ∨ j = 32 ∨ j = 27 ∨ j = 28 ∨ j = 84)) → n' i j = n i j
def e_lv (n : w_M) : Prop := n 428 1 = 0 ∧ n 428 6 = 0 ∧ n 428 88 = -1 ∧ n 428 104 = 0 ∧ n 428 15 = 0 ∧ n 428 17 = 0 ∧ n 428 34 = 0 ∧ n 428 67 = 0 ∧ n 428 29 = 0 ∧ n 428 30 = 6000 ∧ n 428 31 = 0 ∧ n 428 32 = 1 ∧ n 428 27 = 0 ∧ n 428 28 = -1 ∧ n 428 84 = 0
/-- the class's frame of load up to the sections' end -/
def e_xf (m m' : w_M) : Prop := ∀ i j : Int, ¬ (i = 357 ∧ (j = 1 ∨ j = 12 ∨ j = 17 ∨ j = 18)) → ¬ (i = 404 ∧ j = 18) → ¬ (i = 359 ∧ (j = 6 ∨ j = 7)) → ¬ (360 ≤ i ∧ i ≤ 364 ∧ 41 ≤ j) → ¬ (i = 365 ∧ 8512 ≤ j) → ¬ (366 ≤ i ∧ i ≤ 374) → ¬ (376 ≤ i ∧ i ≤ 393) → ¬ (i = 394 ∧ (j = 1 ∨ j = 9)) → i ≠ 395 → m' i j = m i j
/-- an empty table, no stream waits: sections leave it so -/
def e_xb (m : w_M) (L : Int) : Prop := m 366 10 = 0 ∧ m 394 1 = L ∧ m 394 9 = 0 ∧ ∀ k, 0 ≤ k → k < 200 → m 370 k = -1 ∧ m 371 k = -1 ∧ m 372 k = 0 ∧ m 373 k = 0 ∧ m 374 k = 0
/-- both stores empty: no ghost -/
def e_g0 : s_g := (fun _ => 0, fun _ => [], fun _ => -1, fun _ => 0, fun _ => 0, fun _ => 0)
section SZ
variable {d : Nat} {g g' : s_g} {m m' m0 m1 m2 m3 n n' n1 n2 : w_M} {Q : Int → w_M → Prop} {W : Int → Int} {L p v : Int}
theorem r_load (hn : w_nm (w_G0 sM) n) (hok : v_ok W L) (hL : L ≤ 8000) (hT : n 428 1 = L) (hW : ∀ i, 0 ≤ i → i < L → n 429 i % 256 = W i)
    (hQ : ∀ n', e_lo n n' → e_lv n' → e_F n' W L → xc_m_readFile d n' (fun _ m1 => xp_m_load_118 d 0 m1 Q)) : xc_m_load (d + 1) n Q := by
  have L0 := hok.1
  have nb : ∀ j, -128 ≤ n 429 j ∧ n 429 j < 128 := fun j => w_ar_r hn (a := 429) (by decide) s_429 j
  apply xr_m_load
  rw [hT]
  have key : ∀ (k : Nat) (i : Int) (n1 : w_M), i + k = L → 0 ≤ i → (∀ a b : Int, a ≠ 430 → ¬ (a = 428 ∧ b = 1) → n1 a b = n a b) → n1 428 1 = 0 → (∀ x, 0 ≤ x → x < i → n1 430 x % 256 = W x) → xp_m_load_12 d L i n1 Q := by
    intro k
    induction k with
    | zero =>
      intro i n1 hi i0 hf h1 hx
      apply xr_m_load_12
      rw [if_neg (by omega)]
      refine hQ _ (fun a b q1 q2 => ?_) ⟨?_, ?_, ?_, ?_, ?_, ?_, ?_, ?_, ?_, ?_, ?_, ?_, ?_, ?_, ?_⟩ ⟨hok, hL, ?_, fun x x0 x1 => ?_⟩
      · unfold w_up
        rw [if_neg (by omega), if_neg (by omega), if_neg (by omega), if_neg (by omega), if_neg (by omega), if_neg (by omega), if_neg (by omega), if_neg (by omega), if_neg (by omega), if_neg (by omega), if_neg (by omega), if_neg (by omega), if_neg (by omega), if_neg (by omega), if_neg (by omega)]
        exact hf a b q1 (by omega)
      · repeat rw [w_up_nb (by decide)]
        exact h1
      · repeat rw [w_up_nb (by decide)]
        rw [w_up_eq]
      · repeat rw [w_up_nb (by decide)]
        rw [w_up_eq]
      · repeat rw [w_up_nb (by decide)]
        rw [w_up_eq]
      · repeat rw [w_up_nb (by decide)]
        rw [w_up_eq]
      · repeat rw [w_up_nb (by decide)]
        rw [w_up_eq]
      · repeat rw [w_up_nb (by decide)]
        rw [w_up_eq]
      · repeat rw [w_up_nb (by decide)]
        rw [w_up_eq]
      · repeat rw [w_up_nb (by decide)]
        rw [w_up_eq]
      · repeat rw [w_up_nb (by decide)]
        rw [w_up_eq]
      · repeat rw [w_up_nb (by decide)]
        rw [w_up_eq]
      · repeat rw [w_up_nb (by decide)]
        rw [w_up_eq]
      · repeat rw [w_up_nb (by decide)]
        rw [w_up_eq]
      · repeat rw [w_up_nb (by decide)]
        rw [w_up_eq]
      · rw [w_up_eq]
      · repeat rw [w_up_nb (by decide)]
        rw [w_up_eq]
      · repeat rw [w_up_ne (by decide)]
        exact hx x x0 (by omega)
    | succ k ih =>
      intro i n1 hi i0 hf h1 hx
      apply xr_m_load_12
      rw [if_pos (by omega), w_32_id (x := i + 1) (by omega) (by omega), hf 429 i (by decide) (by omega), w_8_id (x := n 429 i) (nb i).1 (nb i).2]
      refine ⟨by omega, by omega, ?_⟩
      refine ih (i + 1) _ (by omega) (by omega) (fun a b q1 q2 => ?_) (by rw [w_up_ne (by decide)]; exact h1) (fun x x0 x1 => ?_)
      · rw [w_up_ne q1]; exact hf a b q1 q2
      · by_cases z : x = i
        · subst z; rw [w_up_eq]; exact hW x x0 (by omega)
        · rw [w_up_nb z]; exact hx x x0 (by omega)
  exact key L.toNat 0 _ (by omega) (by decide) (fun a b q1 q2 => by unfold w_up; rw [if_neg q2]) (by rw [w_up_eq]) (fun x x0 x1 => by omega)
theorem e_bg_r (h : e_bg W L = some v) : 0 ≤ v ∧ v ≤ 2147483647 := by
  by_cases q : ¬ (e_at W 0 e_HEAD ∧ 48 ≤ W 7 ∧ W 7 ≤ 55) ∨ e_ls W (L - 8).toNat < 0
  · have e : e_bg W L = none := if_pos q
    rw [e] at h
    cases h
  · have e : e_bg W L = e_end W L (e_ls W (L - 8).toNat + 9) := if_neg q
    rw [e] at h
    obtain ⟨p, hp⟩ : ∃ p, p = e_ls W (L - 8).toNat + 9 := ⟨_, rfl⟩
    rw [← hp] at h
    by_cases z : e_nb W L p = p ∨ ¬ b_dig (W (e_nb W L p)) ∨ 2147483647 < e_v W L (e_nb W L p) ∨ e_nb W L (e_e W L (e_nb W L p)) = e_e W L (e_nb W L p) ∨ ¬ e_at W (e_nb W L (e_e W L (e_nb W L p))) e_EOF ∨ e_nb W L (e_nb W L (e_e W L (e_nb W L p)) + 5) ≠ L
    · have e2 : e_end W L p = none := if_pos z
      rw [e2] at h
      cases h
    · have e2 : e_end W L p = some (e_v W L (e_nb W L p)) := if_neg z
      rw [e2] at h
      have e3 := Option.some.inj h
      rw [← e3]
      exact ⟨e_v0 W L _, by omega⟩
theorem e_J_same (h : e_J m W L p) (h6 : ∀ j, m' 376 j = m 376 j) (h5 : ∀ j, m' 395 j = m 395 j) : e_J m' W L p :=
  ⟨h.1.far h6 (fun b => by rw [h.2]; exact h5 b), by rw [h6]; exact h.2⟩
theorem r_nslb (hL : 0 ≤ L ∧ L ≤ 8000) : w_ns [(2, 394), (2, 358), (0, L)] := by
  intro v hv
  rcases List.mem_cons.mp hv with e | hv
  · subst e; show (0 : Int) ≤ 394; decide
  · rcases List.mem_cons.mp hv with e | hv
    · subst e; show (0 : Int) ≤ 358; decide
    · rcases List.mem_cons.mp hv with e | hv
      · subst e; show -2147483648 ≤ L ∧ L < 2147483648; omega
      · cases hv
/-- what load sets first -/
def e_xv (m : w_M) : Prop := m 357 1 = 0 ∧ m 357 12 = -1 ∧ m 357 17 = 0 ∧ m 357 18 = -1 ∧ m 404 18 = 0
theorem s_load1 (hm : w_nm (w_G0 sC) m) (hn : w_nm (w_G0 sM) n) (hok : v_ok W L) (hL : L ≤ 8000) (hT : m 357 1 = L) (hTn : n 428 1 = L) (hWc : ∀ i, 0 ≤ i → i < L → m 358 i % 256 = W i) (hWn : ∀ i, 0 ≤ i → i < L → n 429 i % 256 = W i)
    (h8 : m 359 8 = 41) (hkw : s_kw m)
    (H : ∀ n0 n1 m1, e_lo n n0 → e_lv n0 → w_nm (w_G0 sC) m1 → e_xf m m1 → e_xv m1 → (∃ nz, e_rz n0 nz ∧ e_r0 nz ∧ l_mf nz n1) → ((m1 376 6 ≠ 0 ∧ n1 428 27 ≠ 0) ∨ ((∃ g', e_Y g' m1 n1 W L ∧ 1 ≤ n1 428 61) ∧ e_xb m1 L)) → (∀ X, xp_x_load_84 (d + 60) m1 X → xc_x_load (d + 61) m X) → xp_m_load_118 (d + 62) 0 n1 Q) : xc_m_load (d + 63) n Q := by
  have L0 := hok.1
  -- the class: the frame
  obtain ⟨m0, hm0⟩ : ∃ m0, m0 = w_up (w_up (w_up (w_up m 357 12 (-1)) 357 17 0) 357 18 (-1)) 404 18 0 := ⟨_, rfl⟩
  have nm0 : w_nm (w_G0 sC) m0 := by
    rw [hm0]
    have a1 : w_nm (w_G0 sC) (w_up m 357 12 (-1)) := w_pf_nm (k := 12) (s := 0) hm (by decide) (w_sh0_eq.trans s0_357) (w_EC (by decide)) rfl (by show (-2147483648 : Int) ≤ -1 ∧ (-1 : Int) < 2147483648; decide)
    have a2 : w_nm (w_G0 sC) (w_up (w_up m 357 12 (-1)) 357 17 0) := w_pf_nm (k := 17) (s := 0) a1 (by decide) (w_sh0_eq.trans s0_357) (w_EC (by decide)) rfl (by show (-2147483648 : Int) ≤ 0 ∧ (0 : Int) < 2147483648; decide)
    have a3 : w_nm (w_G0 sC) (w_up (w_up (w_up m 357 12 (-1)) 357 17 0) 357 18 (-1)) := w_pf_nm (k := 18) (s := 0) a2 (by decide) (w_sh0_eq.trans s0_357) (w_EC (by decide)) rfl (by show (-2147483648 : Int) ≤ -1 ∧ (-1 : Int) < 2147483648; decide)
    exact w_pf_nm (k := 18) (s := 0) a3 (by decide) (w_sh0_eq.trans s0_404) (w_EC (by decide)) rfl (by show (-2147483648 : Int) ≤ 0 ∧ (0 : Int) < 2147483648; decide)
  have f0 : ∀ i j : Int, ¬ (i = 357 ∧ (j = 12 ∨ j = 17 ∨ j = 18)) → ¬ (i = 404 ∧ j = 18) → m0 i j = m i j := fun i j q1 q2 => by
    rw [hm0]
    unfold w_up
    rw [if_neg (by omega), if_neg (by omega), if_neg (by omega), if_neg (by omega)]
  have e01 : m0 357 1 = L := by rw [f0 _ _ (by decide) (by decide)]; exact hT
  have run : xc_lo_begin (d + 60) 358 L m0 (fun r m' => (∃ v, e_bg W L = some v ∧ r = v ∧ e_lb m0 m' ∧ m' 376 6 = 0 ∧ e_beg m' W L) ∨ (e_bg W L = none ∧ r = -1 ∧ e_lb m0 m' ∧ m' 376 6 ≠ 0)) :=
    sp_begin (d := d + 53) hok hL e01 rfl (fun i i0 i1 => by rw [f0 _ _ (by omega) (by omega)]; exact hWc i i0 i1) (by rw [f0 _ _ (by decide) (by decide)]; exact h8)
      (fun v hv m' a1 a2 a3 => Or.inl ⟨v, hv, rfl, a1, a2, a3⟩) (fun hv m' a1 a2 => Or.inr ⟨hv, rfl, a1, a2⟩)
  obtain ⟨r, mb, y1, nmb, y3⟩ := r_get run nm0 (r_nslb ⟨L0, hL⟩)
  obtain ⟨mc, hmc⟩ : ∃ mc, mc = w_up (w_up (w_up (w_up mb 357 1 0) 391 6 0) 391 7 (-1)) 391 10 0 := ⟨_, rfl⟩
  have nmc : w_nm (w_G0 sC) mc := by
    rw [hmc]
    have a1 : w_nm (w_G0 sC) (w_up mb 357 1 0) := w_pf_nm (k := 1) (s := 0) nmb (by decide) (w_sh0_eq.trans s0_357) (w_EC (by decide)) rfl (by show (-2147483648 : Int) ≤ 0 ∧ (0 : Int) < 2147483648; decide)
    have a2 : w_nm (w_G0 sC) (w_up (w_up mb 357 1 0) 391 6 0) := w_pf_nm (k := 6) (s := 0) a1 (by decide) (w_sh0_eq.trans s0_391) (w_EC (by decide)) rfl (by show (-2147483648 : Int) ≤ 0 ∧ (0 : Int) < 2147483648; decide)
    have a3 : w_nm (w_G0 sC) (w_up (w_up (w_up mb 357 1 0) 391 6 0) 391 7 (-1)) := w_pf_nm (k := 7) (s := 0) a2 (by decide) (w_sh0_eq.trans s0_391) (w_EC (by decide)) rfl (by show (-2147483648 : Int) ≤ -1 ∧ (-1 : Int) < 2147483648; decide)
    exact w_pf_nm (k := 10) (s := 2) a3 (by decide) (w_sh0_eq.trans s0_391) (w_EC (by decide)) rfl (by show (0 : Int) ≤ 0 ∧ (0 : Int) < 2; decide)
  have fc : ∀ i j : Int, ¬ (i = 357 ∧ j = 1) → i ≠ 391 → mc i j = mb i j := fun i j q1 q2 => by
    rw [hmc]
    unfold w_up
    rw [if_neg (by omega), if_neg (by omega), if_neg (by omega), if_neg (by omega)]
  have ec6 : mc 391 6 = 0 := by rw [hmc, w_up_nb (by decide), w_up_nb (by decide), w_up_eq]
  have key : ∀ X, xp_x_load_52 (d + 60) r 0 mc X → xc_x_load (d + 61) m X := fun X hX => by
    apply xr_x_load
    apply xr_pa_forget
    rw [← hm0, e01]
    refine w_C.to y1 ?_
    apply xr_se_clear
    rw [← hmc]
    exact hX
  have xf : ∀ {m1}, e_lb m0 mb → l_cf mc m1 → e_xf m m1 := fun a b i j q1 q2 q3 q4 q5 q6 q7 q8 q9 => by
    rw [b i j q3 q4 q5 (by omega) q7, fc _ _ (by omega) (by omega), a i j q3 (by omega) (by omega) (by omega) q8 q9, f0 _ _ (by omega) q2]
  have xv : ∀ {m1}, e_lb m0 mb → l_cf mc m1 → e_xv m1 := fun {m1} a b => by
    have e : ∀ i j : Int, (i = 357 ∧ (j = 12 ∨ j = 17 ∨ j = 18)) ∨ (i = 404 ∧ j = 18) → m1 i j = m0 i j := fun i j q => by
      rw [b i j (by omega) (by omega) (by omega) (by omega) (by omega), fc _ _ (by omega) (by omega), a i j (by omega) (by omega) (by omega) (by omega) (by omega) (by omega)]
    refine ⟨?_, ?_, ?_, ?_, ?_⟩
    · rw [b 357 1 (by omega) (by omega) (by omega) (by omega) (by omega), hmc, w_up_ne (by decide), w_up_ne (by decide), w_up_ne (by decide), w_up_eq]
    · rw [e _ _ (by omega), hm0, w_up_ne (by decide), w_up_nb (by decide), w_up_nb (by decide), w_up_eq]
    · rw [e _ _ (by omega), hm0, w_up_ne (by decide), w_up_nb (by decide), w_up_eq]
    · rw [e _ _ (by omega), hm0, w_up_ne (by decide), w_up_eq]
    · rw [e _ _ (by omega), hm0, w_up_eq]
  -- the reference
  refine r_load (d := d + 62) hn hok hL hTn hWn (fun n0 o1 o2 hF0 => ?_)
  apply xr_m_readFile
  refine r_rf_2 (fun nz z1 z2 => ?_)
  have hF : e_F nz W L := by
    refine ⟨hF0.1, hF0.2.1, ?_, fun i i0 i1 => ?_⟩
    · rw [z1 _ _ (by decide) (by decide)]; exact hF0.2.2.1
    · rw [z1 _ _ (by decide) (by omega)]; exact hF0.2.2.2 i i0 i1
  obtain ⟨v1, v6, v88, v104, v15, v17, v34, v67, v29, v30, v31, v32, v27, v28, v84⟩ := o2
  have o2 : e_lv n0 := ⟨v1, v6, v88, v104, v15, v17, v34, v67, v29, v30, v31, v32, v27, v28, v84⟩
  have z27 : nz 428 27 = 0 := by rw [z1 _ _ (by decide) (by decide)]; exact v27
  rcases y3 with ⟨v, b1, b2, b3, b4, b5⟩ | ⟨b1, b2, b3, b4⟩
  · subst b2
    have rv := e_bg_r b1
    refine r_frame (d := d + 53) hF z27 (fun v' hv' => ?_) (fun hv' => by rw [b1] at hv'; cases hv')
    rw [b1] at hv'
    have ev := Option.some.inj hv'
    subst ev
    obtain ⟨k1, k2, k3, k4, k5, k6, k7, k8, k9, k10, k11⟩ := b5
    have hY : e_Y e_g0 mc nz W L := by
      have z15 : nz 428 15 = 0 := by rw [z1 _ _ (by decide) (by decide)]; exact v15
      have z17 : nz 428 17 = 0 := by rw [z1 _ _ (by decide) (by decide)]; exact v17
      have z29 : nz 428 29 = 0 := by rw [z1 _ _ (by decide) (by decide)]; exact v29
      have z30 : nz 428 30 = 6000 := by rw [z1 _ _ (by decide) (by decide)]; exact v30
      have z31 : nz 428 31 = 0 := by rw [z1 _ _ (by decide) (by decide)]; exact v31
      have z32 : nz 428 32 = 1 := by rw [z1 _ _ (by decide) (by decide)]; exact v32
      have z34 : nz 428 34 = 0 := by rw [z1 _ _ (by decide) (by decide)]; exact v34
      have c6 : mc 359 6 = 41 := by rw [fc _ _ (by decide) (by decide)]; exact k6
      have c7 : mc 359 7 = 8512 := by rw [fc _ _ (by decide) (by decide)]; exact k7
      have c8 : mc 376 8 = 41 := by rw [fc _ _ (by decide) (by decide)]; exact k4
      have c9 : mc 376 9 = 8512 := by rw [fc _ _ (by decide) (by decide)]; exact k5
      refine ⟨⟨⟨?_, ?_, ?_, ?_, ?_⟩, ?_, ?_, ?_, ?_, ?_, hF, z27, ?_, ?_⟩, ?_, ?_, ?_, ?_, ?_, ?_, fun k q1 q2 _ => (z2.2.2 k q1 q2).1⟩
      · unfold s_bd
        rw [c6, c7, z15, z17]
        decide
      · intro b q1 q2; rw [z15] at q2; omega
      · intro b c q1 q2; rw [z15] at q2; omega
      · intro b c q1 q2; rw [z15] at q2; omega
      · intro b q1 q2; rw [z15] at q2; omega
      · have same : ∀ i j : Int, (i < 357 ∨ (360 ≤ i ∧ i ≤ 365)) → mc i j = m i j := fun i j q => by
          rw [fc _ _ (by omega) (by omega), b3 i j (by omega) (by omega) (by omega) (by omega) (by omega) (by omega), f0 _ _ (by omega) (by omega)]
        refine ⟨by rw [same _ _ (by decide)]; exact hkw.1, fun k q1 q2 => ?_⟩
        obtain ⟨a1, a2, a3, a4⟩ := hkw.2 k q1 q2
        exact ⟨by rw [same _ _ (by decide)]; exact a1, by rw [same _ _ (by decide)]; exact a2, by rw [same _ _ (by decide)]; exact a3, fun i hi => by rw [same _ _ (by decide)]; exact a4 i hi⟩
      · obtain ⟨p, hp⟩ := k1
        exact ⟨p, e_J_same hp (fun j => fc _ _ (by omega) (by omega)) (fun j => fc _ _ (by omega) (by omega))⟩
      · rw [fc _ _ (by decide) (by decide)]; exact k2
      · rw [fc _ _ (by decide) (by decide)]; exact k3
      · rw [fc _ _ (by decide) (by decide)]; exact b4
      · unfold s_ct
        rw [c6, c8, z29, z30, z15]
        decide
      · rw [z32, c9, c7, z31, z17]
        decide
      · rw [z34]; decide
      · rw [ec6, z2.2.1]
      · rw [z2.2.1]; decide
      · intro i q1 q2; rw [z2.2.1] at q2; omega
      · intro _
        refine ⟨z2.1, fun k q1 q2 => ?_⟩
        have := z2.2.2 k (by omega) q2
        refine ⟨this.2.1, this.1, ?_⟩
        rw [fc _ _ (by omega) (by decide)]
        exact k8.1 k q1 q2
      · intro z; exact absurd z2.2.1 z
    have z61 := z2.2.1
    have ss := s_secs (W := W) (L := L) (d := d) 10 e_g0 mc nz r hY nmc (by rw [z61]; rfl) (by omega) rv.2 (fun z => by omega)
    refine w_W.more ss (fun _ n1 hn1 => ?_)
    obtain ⟨m1, ⟨p1, p2, p3, p4⟩, p5⟩ := hn1
    rw [z61] at p5
    have xb : e_xb m1 L := by
      have e : ∀ i j : Int, (i = 366 ∨ (370 ≤ i ∧ i ≤ 374) ∨ i = 394) → m1 i j = mb i j := fun i j q => by
        rw [p2 i j (by omega) (by omega) (by omega) (by omega) (by omega), fc _ _ (by omega) (by omega)]
      refine ⟨by rw [e _ _ (by decide)]; exact k9, by rw [e _ _ (by decide)]; exact k10, by rw [e _ _ (by decide)]; exact k11, fun k q1 q2 => ?_⟩
      rw [e _ _ (by decide), e _ _ (by decide), e _ _ (by decide), e _ _ (by decide), e _ _ (by decide)]
      exact k8.2 k q1 q2
    exact H n0 n1 m1 o1 o2 p1 (xf b3 p2) (xv b3 p2) ⟨nz, z1, z2, p3⟩ (p4.imp id (fun z => ⟨z, xb⟩)) (fun X hX => key X (p5 X hX))
  · subst b2
    refine r_frame (d := d + 53) hF z27 (fun v' hv' => by rw [b1] at hv'; cases hv') (fun hv' c x hc => ?_)
    refine H n0 _ mc o1 o2 nmc (xf b3 l_cf.rf) (xv b3 l_cf.rf) ⟨nz, z1, z2, m_fl_l⟩ (Or.inl ⟨?_, m_fl_ne z27 hc⟩) (fun X hX => key X ?_)
    · rw [fc _ _ (by decide) (by decide)]; exact b4
    · apply xr_x_load_52
      rw [if_neg (by decide), if_pos (by decide)]
      exact hX
end SZ
