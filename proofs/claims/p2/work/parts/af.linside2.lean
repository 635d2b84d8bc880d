/-! ===== the loader: an object inside an object stream, both sides ===== -/
section SJ2
variable {d c : Nat} {g g' : s_g} {m m' m1 m2 n n' n1 n2 : w_M} {Q : Int → w_M → Prop} {W : Int → Int} {L p k v v' x y P r b w C i l2 l5 T o B F many K ro : Int}
theorem l_in_no : ∀ (j : Nat) (p i v v' : Int), (T < i ∨ i + j ≤ T) → l_in W L T k j p i v v' → v' = v := by
  intro j
  induction j with
  | zero => intro p i v v' _ h; exact h
  | succ j ih =>
    intro p i v v' hi h
    obtain ⟨_, _, h3⟩ := h
    rw [if_neg (by omega)] at h3
    exact ih _ _ _ _ (by omega) h3
theorem l_tk56 (h : m_tk n W L p) (hf : ∀ i j : Int, i ≠ 456 → n' i j = n i j) : m_tk n' W L p := by
  have e428 : n' 428 = n 428 := funext (fun j => hf _ _ (by decide))
  have e440 : n' 440 = n 440 := funext (fun j => hf _ _ (by decide))
  unfold m_tk m_row m_bt at h ⊢
  rw [e428, e440]
  exact h
theorem c_isS_y (hu : l_us m k) (hs : m 366 11 ≤ 200) (h : 0 ≤ m 371 k) (hQ : Q 1 m) : xc_ta_isStream (d + 1) k m Q := by
  obtain ⟨h1, h2, h3⟩ := hu
  apply xr_ta_isStream
  rw [if_pos h1, if_pos h2, if_pos (by omega), if_neg h3, if_neg (by omega)]
  exact ⟨by omega, by omega, hQ⟩
theorem c_isS_n (h : ¬ (l_us m k ∧ 0 ≤ m 371 k)) (hQ : Q 0 m) : xc_ta_isStream (d + 1) k m Q := by
  apply xr_ta_isStream
  refine z_ite (fun q1 => ?_) (fun _ => hQ)
  refine z_ite (fun q2 => ?_) (fun _ => hQ)
  refine z_ite (fun q3 => ?_) (fun _ => hQ)
  refine ⟨by omega, ?_⟩
  refine z_ite (fun _ => hQ) (fun q4 => ?_)
  refine ⟨by omega, ?_⟩
  rw [if_pos (Int.not_le.mp (fun z => h ⟨⟨q1, q2, q4⟩, z⟩))]
  exact hQ
theorem c_begin_y (hu : l_us m k) (hs : m 366 11 ≤ 200) (h : 0 ≤ m 371 k) (hQ : Q (m 371 k) m) : xc_ta_beginOf (d + 2) k m Q := by
  have := hu.1
  have := hu.2.1
  apply xr_ta_beginOf
  refine c_isS_y (d := d) hu hs h ?_
  rw [if_neg (by decide)]
  exact ⟨by omega, hQ⟩
theorem c_begin_n (h : ¬ (l_us m k ∧ 0 ≤ m 371 k)) (hQ : Q 0 m) : xc_ta_beginOf (d + 2) k m Q := by
  apply xr_ta_beginOf
  refine c_isS_n (d := d) h ?_
  rw [if_pos rfl]
  exact hQ
theorem c_length_y (hu : l_us m k) (hs : m 366 11 ≤ 200) (h : 0 ≤ m 371 k) (hQ : Q (m 372 k) m) : xc_ta_lengthOf (d + 2) k m Q := by
  have := hu.1
  have := hu.2.1
  apply xr_ta_lengthOf
  refine c_isS_y (d := d) hu hs h ?_
  rw [if_neg (by decide)]
  exact ⟨by omega, hQ⟩
theorem c_length_n (h : ¬ (l_us m k ∧ 0 ≤ m 371 k)) (hQ : Q 0 m) : xc_ta_lengthOf (d + 2) k m Q := by
  apply xr_ta_lengthOf
  refine c_isS_n (d := d) h ?_
  rw [if_pos rfl]
  exact hQ
/-- an entry of what is no dict -/
theorem c_whole_n (hk : f_st_kindOf m x ≠ 7) (hQ : Q (-1) m) : xc_st_wholeEntry (d + 4) x k m Q := by
  apply xr_st_wholeEntry
  refine sp_st_entry_n (d := d) hk ?_
  refine sp_st_kindOf (d := d + 2) ?_
  have : f_st_kindOf m (-1) = -1 := by
    unfold f_st_kindOf
    rw [if_pos (by decide)]
  rw [this, if_neg (by decide)]
  exact hQ
theorem c_97_bad (hs : m 366 11 ≤ 200) (hQ : ∀ m', l_op m m' → m' 376 6 ≠ 0 → Q 0 m') : xp_lo_findInside_97 (d + 5) k o x y 0 m Q := by
  have opn : ∀ a b : Int, xc_ps_open (d + 5) 376 375 a (w_32 (a + b)) m (fun _ m3 => xp_lo_findInside_148 (d + 5) k o x y 0 a (w_32 (a + b)) (-1) 0 m3 Q) := by
    intro a b
    apply xr_ps_open (Or.inl rfl)
    refine ⟨⟨1, 40000, s0_375, by decide, by decide⟩, ?_⟩
    obtain ⟨m4, hm4⟩ : ∃ m4, m4 = w_up (w_up (w_up (w_up (w_up m 376 2 375) 376 5 (max 0 (min (w_32 (a + b)) (w_ln 375)))) 376 3 (max 0 (min a (max 0 (min (w_32 (a + b)) (w_ln 375)))))) 376 4 (max 0 (min a (max 0 (min (w_32 (a + b)) (w_ln 375)))))) 376 11 (-1) := ⟨_, rfl⟩
    rw [← hm4]
    have f4 : l_op m m4 := fun i j q => by rw [hm4, l_up (by omega), l_up (by omega), l_up (by omega), l_up (by omega), l_up (by omega)]
    have fin : ∀ a b : Int, xp_lo_findInside_237 (d + 5) o 0 a b m4 Q := fun a b => c_in_bad (d := d + 2) (by rw [f4 _ _ (by omega)]; exact hs) (fun m' f z => hQ m' (f4.tr f) z)
    apply xr_lo_findInside_148
    refine z_ite (fun _ => ?_) (fun _ => fin _ _)
    rw [if_pos rfl]
    exact fin _ _
  apply xr_lo_findInside_97
  by_cases q : l_us m o ∧ 0 ≤ m 371 o
  · refine c_begin_y (d := d + 3) q.1 hs q.2 ?_
    refine c_length_y (d := d + 3) q.1 hs q.2 ?_
    exact opn _ _
  · refine c_begin_n (d := d + 3) q ?_
    refine c_length_n (d := d + 3) q ?_
    exact opn _ _
/-- the window on a stream's bytes -/
def l_W (n : w_M) (B L : Int) : Int → Int := fun i => if 0 ≤ i ∧ i < L then n 441 (B + i) % 256 else -1
theorem l_W_ok (h : 0 ≤ L) : v_ok (l_W n B L) L := by
  refine ⟨h, fun i q1 q2 => ?_, fun i q => ?_⟩
  · unfold l_W
    rw [if_pos ⟨q1, q2⟩]
    omega
  · unfold l_W
    rw [if_neg (by omega)]
theorem s_inside (hI : l_I g m n W L C) (hm : w_nm (w_G0 sC) m) (h9 : m 394 9 = 0) (hk : 1 ≤ k ∧ k < n 428 60) (h1 : n 451 k = 2) (h0 : n 456 k = 0) (ho : 1 ≤ o ∧ o < n 428 60) (eo : n 452 k = o) (o1 : n 451 o = 1) (o2 : n 456 o = 2)
    (HF : ∀ n' m', l_n n n' → n' 428 27 ≠ 0 → l_c m m' → w_nm (w_G0 sC) m' → m' 376 6 ≠ 0 → (∀ X : Int → w_M → Prop, X 0 m' → xc_lo_readObject (c + 60) k m X) → Q 0 n')
    (HG : ∀ g' n' m', l_I g' m' n' W L C → w_nm (w_G0 sC) m' → l_n n n' → l_c m m' → s_cf m m' → s_mf n n' → s_ex g g' (n 428 15) → m' 394 9 = 0 → n' 456 k = 2 → (∀ x, x ≠ k → n' 456 x = n 456 x ∧ n' 455 x = n 455 x) → (∀ X : Int → w_M → Prop, X 0 m' → xc_lo_readObject (c + 60) k m X) → Q 0 n') : xp_m_readIn_119 (d + 59) k o P n Q := by
  obtain ⟨i1, i2, i3, i4, i5, i6, i7, i8, i9, i10, i11, i12, i13, i14, i15⟩ := id hI
  obtain ⟨us, hs, k2⟩ := l_obj hI hk (by omega)
  obtain ⟨uo, _, ok2⟩ := l_obj hI ho (by omega)
  obtain ⟨a1, a2, a3, a4, a5, a6, a7, a8, a9, b1, b2, b3⟩ := (i12 o (by omega) ok2).resolve_left (fun z => by omega)
  obtain ⟨ka1, ka2, ka3, ka4, ka5, ka6, ka7, ka8, ka9, kb1, kb2, kb3⟩ := (i12 k (by omega) k2).resolve_left (fun z => by omega)
  rw [if_neg (show ¬ (n 451 k = 2 ∧ n 456 k = 2) by omega)] at ka9
  obtain ⟨ro, hro⟩ : ∃ ro, ro = n 455 o := ⟨_, rfl⟩
  have tro := b1 (by omega)
  obtain ⟨b3a, b3b⟩ := b3 o2
  rw [← hro] at tro b3a
  have r0 : 0 ≤ ro ∧ ro < n 428 15 := by have := tro.1; have := tro.2.1; have := tro.2.2.1; omega
  have u17 := l_u17 hI
  have bd := i1.1
  unfold s_bd at bd
  have e68 : m 368 k = o := by omega
  have kdo := i1.kd (y := ro) (Or.inr r0)
  rw [s_up_y r0.1, show s_kd n ro = n 432 ro from if_neg (by omega)] at kdo
  -- the class: readObject
  have rd : ∀ X : Int → w_M → Prop, xp_lo_readObject_17 (c + 59) k 1 m X → xc_lo_readObject (c + 60) k m X := fun X hX => by
    apply xr_lo_readObject
    refine sp_howOf_y (d := c + 57) us hs ?_
    rw [if_pos (by omega)]
    exact hX
  -- the class fails where findInside fails
  have cfail : xc_lo_findInside (c + 59) k m (fun r m' => r = 0 ∧ l_op m m' ∧ m' 376 6 ≠ 0) → ∀ n', l_n n n' → n' 428 27 ≠ 0 → Q 0 n' := by
    intro run n' fn z
    obtain ⟨r, m1, y1, nm1, y3, y4, y5⟩ := r_get run hm (l_nsr (by decide) (l_nsi (by omega) l_ns0))
    refine HF n' m1 fn z y4.qc nm1 y5 (fun X hX => ?_)
    refine rd X ?_
    apply xr_lo_readObject_17
    rw [if_neg (by decide)]
    refine y1.to ?_
    rw [y3, if_pos rfl]
    apply xr_lo_readObject_52
    rw [if_pos (by decide), if_pos (by decide)]
    exact hX
  -- a fault of the reference
  have bad : ∀ n1, m_ag n n1 → (∀ n', l_n n n' → n' 428 27 ≠ 0 → Q 0 n') → Q 0 (m_fl n1 6 P) := by
    intro n1 f1 h
    have z27 : n1 428 27 = 0 := by rw [f1 _ _ (by omega) (by omega)]; exact i6
    exact h _ (fun i j q1 q2 q3 => by rw [m_fl_o (by omega)]; exact f1 i j (by omega) (by omega)) (m_fl_ne z27 (by decide))
  -- findInside up to its pairs
  obtain ⟨N0, hN0⟩ : ∃ N0, N0 = z_wh g n ro 39 (-1) := ⟨_, rfl⟩
  obtain ⟨F0, hF0⟩ : ∃ F0, F0 = z_wh g n ro 40 (-1) := ⟨_, rfl⟩
  obtain ⟨ty, hty⟩ : ∃ ty, ty = s_fd n (s_wd 1) (g.2.1 ro) := ⟨_, rfl⟩
  have fi : ∀ (R : Int → w_M → Prop) (v1 v2 : Int), (n 432 ro = 7 → v1 = max (-1) N0 ∧ v2 = max (-1) F0) → (n 432 ro ≠ 7 → v1 = -1 ∧ v2 = -1) → (xc_ta_isStream (c + 58) o m (fun r5 m5 => if r5 = 0 then (xp_lo_findInside_97 (c + 58) k o v1 v2 0 m5 R) else (if v1 < 0 then (xp_lo_findInside_97 (c + 58) k o v1 v2 0 m5 R) else (if 200 < v1 then (xp_lo_findInside_97 (c + 58) k o v1 v2 0 m5 R) else (if v2 < 0 then (xp_lo_findInside_97 (c + 58) k o v1 v2 0 m5 R) else (xc_st_entry (c + 58) (g.1 ro) 1 m5 (fun r6 m6 => xc_st_isName (c + 58) r6 38 m6 (fun r7 m7 => if r7 = 0 then (xp_lo_findInside_97 (c + 58) k o v1 v2 0 m7 R) else (xp_lo_findInside_97 (c + 58) k o v1 v2 1 m7 R))))))))) → xc_lo_findInside (c + 59) k m R := by
    intro R v1 v2 y7 n7 hR
    apply xr_lo_findInside
    refine sp_placeOf_y (d := c + 56) us hs ?_
    rw [e68]
    refine sp_rootOf_y (d := c + 57) uo hs ?_
    rw [b3a]
    by_cases q : n 432 ro = 7
    · obtain ⟨y1, y2⟩ := y7 q
      refine sp_wholeEntry (d := c + 54) i1 i2 (by decide) r0 q ?_
      refine sp_wholeEntry (d := c + 54) i1 i2 (by decide) r0 q ?_
      rw [← hN0, ← hF0, ← y1, ← y2]
      exact hR
    · obtain ⟨y1, y2⟩ := n7 q
      refine c_whole_n (d := c + 54) (by rw [kdo]; exact q) ?_
      refine c_whole_n (d := c + 54) (by rw [kdo]; exact q) ?_
      rw [y1, y2] at hR
      exact hR
  have fi97 : ∀ v1 v2 : Int, xp_lo_findInside_97 (c + 58) k o v1 v2 0 m (fun r m' => r = 0 ∧ l_op m m' ∧ m' 376 6 ≠ 0) := fun v1 v2 => c_97_bad (d := c + 53) hs (fun m' f z => ⟨rfl, f, z⟩)
  -- the reference, where 'is' is wrong
  have r170 : (∀ n', l_n n n' → n' 428 27 ≠ 0 → Q 0 n') → xp_m_readIn_170 (d + 59) k o P ro 0 n Q := by
    intro h
    apply xr_m_readIn_170
    rw [if_pos rfl, if_pos rfl]
    apply xr_m_readIn_212
    rw [if_pos (by decide)]
    refine sp_m_fail ?_
    exact bad n m_ag.rf h
  refine w_W.nm (fun hn => ?_)
  apply xr_m_readIn_119
  refine r_gd ?_
  rw [if_pos i6, if_neg (by decide)]
  refine ⟨by omega, by omega, ?_⟩
  rw [← hro]
  rcases b3b with ⟨c1, c2⟩ | ⟨c1, c2, c3, c4, c5, c6, c7, c8⟩
  · -- no stream
    rw [if_pos c1]
    refine r170 (cfail ?_)
    refine fi _ (if n 432 ro = 7 then max (-1) N0 else -1) (if n 432 ro = 7 then max (-1) F0 else -1) (fun z => ⟨if_pos z, if_pos z⟩) (fun z => ⟨if_neg z, if_neg z⟩) ?_
    refine c_isS_n (d := c + 57) (fun z => by omega) ?_
    rw [if_pos rfl]
    exact fi97 _ _
  · rw [if_neg (by omega)]
    rw [← hro] at c2
    have FI := fun R => fi R (max (-1) N0) (max (-1) F0) (fun _ => ⟨rfl, rfl⟩) (fun z => absurd c2 z)
    have isS : ∀ R : Int → w_M → Prop, (if max (-1) N0 < 0 then (xp_lo_findInside_97 (c + 58) k o (max (-1) N0) (max (-1) F0) 0 m R) else (if 200 < max (-1) N0 then (xp_lo_findInside_97 (c + 58) k o (max (-1) N0) (max (-1) F0) 0 m R) else (if max (-1) F0 < 0 then (xp_lo_findInside_97 (c + 58) k o (max (-1) N0) (max (-1) F0) 0 m R) else (xc_st_entry (c + 58) (g.1 ro) 1 m (fun r6 m6 => xc_st_isName (c + 58) r6 38 m6 (fun r7 m7 => if r7 = 0 then (xp_lo_findInside_97 (c + 58) k o (max (-1) N0) (max (-1) F0) 0 m7 R) else (xp_lo_findInside_97 (c + 58) k o (max (-1) N0) (max (-1) F0) 1 m7 R))))))) → xc_lo_findInside (c + 59) k m R := fun R hR => FI R (by
      refine c_isS_y (d := c + 57) uo hs (by omega) ?_
      rw [if_neg (by decide)]
      exact hR)
    have tno : s_no n ty := by rw [hty]; exact i1.fd r0 c2
    have tyt : 0 ≤ ty → n 432 ty = 4 → 0 ≤ n 436 ty ∧ n 436 ty + n 435 ty ≤ 150000 := fun z1 z2 => by
      have nd := i1.2.1 ty z1 (by unfold s_no at tno; omega)
      have tx := (nd.2.2.2.2.2.2.2.1 (Or.inl z2)).2
      unfold s_tx at tx
      omega
    have typ : ty < 40000 := by unfold s_no at tno; omega
    refine r_rawEntry (d := d + 53) i1 t_mtype r0 c2 ?_
    rw [← hty]
    refine r_isName (d := d + 53) t_mObjStm typ tyt (fun zn => ?_) (fun zn => ?_)
    · -- an object stream
      rw [if_neg (by decide)]
      have nameY : ∀ R : Int → w_M → Prop, ¬ max (-1) N0 < 0 → ¬ 200 < max (-1) N0 → ¬ max (-1) F0 < 0 → xp_lo_findInside_97 (c + 58) k o (max (-1) N0) (max (-1) F0) 1 m R → xc_lo_findInside (c + 59) k m R := fun R z1 z2 z3 hR => isS R (by
        rw [if_neg z1, if_neg z2, if_neg z3]
        refine sp_st_entry (d := c + 55) i1 i2 (by decide) r0 c2 ?_
        rw [← hty]
        refine sp_st_isName (d := c + 55) i1 i2 (by decide) tno (fun _ => ?_) (fun z => absurd zn z)
        rw [if_neg (by decide)]
        exact hR)
      apply xr_m_readIn_170
      rw [if_neg (by decide)]
      refine r_wholeAt (d := d + 51) i1 t_mN r0 c2 ?_
      rw [if_neg (by decide)]
      refine r_wholeAt (d := d + 51) i1 t_mFirst r0 c2 ?_
      rw [← hN0, ← hF0]
      apply xr_m_readIn_212
      by_cases q1 : N0 < 0
      · rw [if_pos q1]
        refine sp_m_fail ?_
        exact bad n m_ag.rf (cfail (isS _ (by rw [if_pos (by omega)]; exact fi97 _ _)))
      · rw [if_neg q1]
        by_cases q2 : 200 < N0
        · rw [if_pos q2]
          refine sp_m_fail ?_
          exact bad n m_ag.rf (cfail (isS _ (by rw [if_neg (by omega), if_pos (by omega)]; exact fi97 _ _)))
        · rw [if_neg q2]
          by_cases q3 : F0 < 0
          · rw [if_pos q3]
            refine sp_m_fail ?_
            exact bad n m_ag.rf (cfail (isS _ (by rw [if_neg (by omega), if_neg (by omega), if_pos (by omega)]; exact fi97 _ _)))
          · rw [if_neg q3]
            refine ⟨by omega, ?_⟩
            -- the class opens the bytes
            obtain ⟨B, hB⟩ : ∃ B, B = n 458 o := ⟨_, rfl⟩
            obtain ⟨S, hS⟩ : ∃ S, S = n 459 o := ⟨_, rfl⟩
            rw [← hB] at c3 c5 c8
            rw [← hS] at c4 c6 c7 c8
            obtain ⟨d1, d2, d3, d4⟩ := id i10
            obtain ⟨V, hV⟩ : ∃ V, V = l_W n B S := ⟨_, rfl⟩
            have Vok : v_ok V S := by rw [hV]; exact l_W_ok c6
            have VI : ∀ i, 0 ≤ i → i < S → V i = n 441 (B + i) % 256 := fun i z1 z2 => by rw [hV]; exact if_pos ⟨z1, z2⟩
            have l375 : w_ln 375 = 40000 := w_ln_eq s0_375
            have eN : max (-1) N0 = N0 := by omega
            have eF : max (-1) F0 = F0 := by omega
            have F0r : F0 ≤ 2147483647 := by
              have q : -2147483648 ≤ n 433 (s_fd n (s_wd 40) (g.2.1 ro)) ∧ n 433 (s_fd n (s_wd 40) (g.2.1 ro)) < 2147483648 := w_ar_r hn (a := 433) (by decide) s_433 (s_fd n (s_wd 40) (g.2.1 ro))
              rw [hF0]
              unfold z_wh
              repeat' split
              all_goals omega
            have opn : ∃ m4, l_op m m4 ∧ m4 376 6 = m 376 6 ∧ m4 376 3 = B ∧ c_st m4 376 V S 0 ∧ m4 376 2 = 375 ∧ ∀ R : Int → w_M → Prop, xp_lo_findInside_148 (c + 58) k o N0 F0 1 B (B + S) (-1) 0 m4 R → xp_lo_findInside_97 (c + 58) k o N0 F0 1 m R := by
              obtain ⟨m4, hm4⟩ : ∃ m4, m4 = w_up (w_up (w_up (w_up (w_up m 376 2 375) 376 5 (B + S)) 376 3 B) 376 4 B) 376 11 (-1) := ⟨_, rfl⟩
              have f4 : ∀ i j : Int, ¬ (i = 376 ∧ (j = 2 ∨ j = 3 ∨ j = 4 ∨ j = 5 ∨ j = 11)) → m4 i j = m i j := fun i j q => by
                rw [hm4, l_up (by omega), l_up (by omega), l_up (by omega), l_up (by omega), l_up (by omega)]
              have g2 : m4 376 2 = 375 := by rw [hm4, w_up_nb (by decide), w_up_nb (by decide), w_up_nb (by decide), w_up_nb (by decide), w_up_eq]
              have g5 : m4 376 5 = B + S := by rw [hm4, w_up_nb (by decide), w_up_nb (by decide), w_up_nb (by decide), w_up_eq]
              have g3 : m4 376 3 = B := by rw [hm4, w_up_nb (by decide), w_up_nb (by decide), w_up_eq]
              have g4 : m4 376 4 = B := by rw [hm4, w_up_nb (by decide), w_up_eq]
              have g11 : m4 376 11 = -1 := by rw [hm4, w_up_eq]
              refine ⟨m4, fun i j q => f4 i j (by omega), f4 _ _ (by omega), g3, ⟨⟨Vok, Or.inl rfl, by rw [g2]; decide, by rw [g2]; exact ⟨40000, s0_375⟩, by rw [g2]; exact ⟨1, 40000, s0_375, by decide, by decide⟩, by rw [g3]; exact c5, by rw [g5, g3], by rw [g5, g2, l375]; omega, by rw [g2, l375]; decide, fun i i0 i1 => ?_⟩, by rw [g4, g3, Int.add_zero], Int.le_refl _, c6, fun q q0 q1 q2 => ?_⟩, g2, fun R hR => ?_⟩
              · rw [g2, g3, f4 _ _ (by omega), VI i i0 i1, d4 (B + i) (by omega) (by omega)]
              · rw [g11, g3] at q2
                omega
              · apply xr_lo_findInside_97
                refine c_begin_y (d := c + 56) uo hs (by omega) ?_
                refine c_length_y (d := c + 56) uo hs (by omega) ?_
                rw [c3, c4, w_32_id (x := B + S) (by omega) (by omega)]
                apply xr_ps_open (Or.inl rfl)
                refine ⟨⟨1, 40000, s0_375, by decide, by decide⟩, ?_⟩
                rw [l375, show max 0 (min (B + S) 40000) = B + S by omega, show max 0 (min B (B + S)) = B by omega, ← hm4]
                exact hR
            obtain ⟨m4, o4, o46, o43, o4s, o42, o4r⟩ := opn
            have u4 : l_us m4 k := us.fr (o4 _ _ (by omega)) (o4 _ _ (by omega))
            have hs4 : m4 366 11 ≤ 200 := by rw [o4 _ _ (by omega)]; exact hs
            have toM : ∀ (R : Int → w_M → Prop), xp_lo_findInside_148 (c + 58) k o N0 F0 1 B (B + S) (-1) 0 m4 R → xc_lo_findInside (c + 59) k m R := fun R hR => nameY R (by omega) (by omega) (by omega) (by rw [eN, eF]; exact o4r R hR)
            obtain ⟨T, hT⟩ : ∃ T, T = m 369 k := ⟨_, rfl⟩
            have lin0 : ∀ v', l_in V S T k N0.toNat 0 0 (-1) v' ↔ l_in V S T k N0.toNat 0 0 (-1) v' := fun _ => Iff.rfl
            by_cases q4 : n 453 k < N0
            · rw [if_pos q4]
              refine ⟨by omega, by omega, ?_⟩
              rw [← hB, ← hS]
              have eT : n 453 k = T := by rw [hT, ka9, if_neg (by omega)]
              have crun : ∀ {A : Prop}, (A → ∃ v', 0 ≤ v' ∧ l_in V S T k N0.toNat 0 0 (-1) v') ∨ True := Or.inr trivial
              -- the reference's window
              apply xr_m_from
              obtain ⟨n1, hn1⟩ : ∃ n1, n1 = w_up (w_up (w_up (w_up n 428 18 441) 428 19 B) 428 20 S) 428 21 0 := ⟨_, rfl⟩
              rw [← hn1]
              have f1 : ∀ i j : Int, ¬ (i = 428 ∧ 18 ≤ j ∧ j ≤ 21) → n1 i j = n i j := fun i j q => by rw [hn1, l_up (by omega), l_up (by omega), l_up (by omega), l_up (by omega)]
              have g18 : n1 428 18 = 441 := by rw [hn1, w_up_nb (by decide), w_up_nb (by decide), w_up_nb (by decide), w_up_eq]
              have g19 : n1 428 19 = B := by rw [hn1, w_up_nb (by decide), w_up_nb (by decide), w_up_eq]
              have g20 : n1 428 20 = S := by rw [hn1, w_up_nb (by decide), w_up_eq]
              have g21 : n1 428 21 = 0 := by rw [hn1, w_up_eq]
              have l441 : w_ln 441 = 57000 := w_ln_eq s0_441
              have V1 : v_m n1 V S := by
                refine ⟨Vok, by rw [g18]; decide, by rw [g18]; exact ⟨57000, s0_441⟩, by rw [g19]; exact c5, g20, by rw [g18, g19, l441]; omega, by rw [g18, l441]; decide, fun i i0 i1 => ?_⟩
                rw [g18, g19, f1 _ _ (by omega)]
                exact (VI i i0 i1).symm
              have G1 : e_G n1 V S 0 := ⟨⟨V1, by omega, g21, Int.le_refl _, c6⟩, Or.inr (by rw [g18]; decide), by rw [f1 _ _ (by omega)]; exact u17.1, by rw [f1 _ _ (by omega)]; omega⟩
              have n127 : n1 428 27 = 0 := by rw [f1 _ _ (by omega)]; exact i6
              refine r_in (d := d + 54) (W := V) (L := S) (T := T) ⟨by omega, k2⟩ n127 ⟨by omega, F0r⟩ (by rw [f1 _ _ (by omega)]; exact eT) (by omega) (by omega) c7 (fun v' v0 hv n2 q a2 G2 => ?_) (fun z n2 f2 z2 => ?_) N0.toNat 0 0 (-1) n1 (by omega) (by decide) m_ag.rf G1 (by decide) (by decide) ⟨fun z => by omega, fun _ => rfl⟩ lin0
              · -- its place
                have vr := l_in_r _ _ _ _ _ (by decide) (by decide) hv
                obtain ⟨ps, hps⟩ : ∃ ps, ps = min (F0 + v') S := ⟨_, rfl⟩
                rw [← hps]
                have run : xc_lo_findInside (c + 59) k m (fun r m' => r = 1 ∧ l_op m m' ∧ m' 376 6 = 0 ∧ m' 376 3 = B ∧ m' 376 2 = 375 ∧ c_st m' 376 V S ps) := by
                  refine toM _ ?_
                  refine c_in (d := c + 53) (T := T) u4 hs4 ⟨c5, by omega⟩ ⟨by omega, F0r⟩ (by rw [o4 _ _ (by omega)]; exact hT.symm) o43 (by omega) (fun v2 v20 hv2 m5 c5' ⟨q5, s5⟩ => ?_) (fun z => absurd ⟨v', v0, hv⟩ z) N0.toNat 0 0 (-1) m4 (by omega) (by decide) c_ch.rf o4s (by decide) (by decide) lin0
                  have e2 := l_in_one _ _ _ _ _ _ hv2 hv
                  rw [e2, w_32_id (x := min (B + F0 + v') (B + S)) (by omega) (by omega)]
                  have e43 : m5 376 3 = B := by rw [c5' _ _ (by omega)]; exact o43
                  have em : min (B + F0 + v') (B + S) = m5 376 3 + ps := by rw [e43]; omega
                  refine ⟨rfl, (o4.tr c5'.lop).tr (fun i j q => l_up (by omega)), by rw [w_up_nb (by decide), c5' _ _ (by omega), o46]; exact i4.2, by rw [w_up_nb (by decide)]; exact e43, by rw [w_up_nb (by decide), c5' _ _ (by omega)]; exact o42, ?_⟩
                  rw [em]
                  exact s5.mv (by omega) (by omega)
                obtain ⟨r5, m5, y1, nm5, y3, y4, y5, y6, y7, y8⟩ := r_get run hm (l_nsr (by decide) (l_nsi (by omega) l_ns0))
                apply xr_m_readIn_448
                have G3 : e_G (w_up n2 428 21 ps) V S ps := by
                  obtain ⟨h1, h2, h3, h4⟩ := G2
                  refine ⟨⟨h1.1.up (by decide), by omega, w_up_eq, by omega, by omega⟩, by rw [w_up_nb (by decide)]; exact h2, by rw [w_up_nb (by decide)]; exact h3, ?_⟩
                  rw [w_up_nb (by decide), a2.k17, f1 _ _ (by omega)]
                  omega
                have a3 : m_ag n1 (w_up n2 428 21 ps) := a2.up (by decide)
                refine r_tok (d := d + 54) G3 (fun n4 t4 k4 => ⟨by omega, ?_⟩)
                have a4 : m_ag n1 n4 := a3.tr t4
                obtain ⟨n5, hn5⟩ : ∃ n5, n5 = w_up n4 456 k (w_8 1) := ⟨_, rfl⟩
                rw [← hn5]
                have f5 : ∀ i j : Int, ¬ (i = 456 ∧ j = k) → n5 i j = n4 i j := fun i j q => by rw [hn5, l_up q]
                have e565 : n5 456 k = 1 := by rw [hn5, w_up_eq]; exact w_8_id (by decide) (by decide)
                have tot5 : ∀ i j : Int, ¬ (i = 428 ∧ 18 ≤ j ∧ j ≤ 26) → ¬ (i = 440 ∧ n 428 17 ≤ j ∧ j < 140000) → ¬ (i = 456 ∧ j = k) → n5 i j = n i j := fun i j q1 q2 q3 => by
                  rw [f5 i j q3, a4 i j (by omega) (by rw [f1 _ _ (by omega)]; exact q2)]
                  exact f1 i j (by omega)
                have n5o : ∀ j : Int, ¬ (18 ≤ j ∧ j ≤ 26) → n5 428 j = n 428 j := fun j q => tot5 _ _ (by omega) (by omega) (by omega)
                have mf5 : s_mf n n5 := by
                  have e1 := n5o 15 (by omega)
                  have e2 := n5o 17 (by omega)
                  exact ⟨by omega, by omega, fun a b q1 q2 _ _ => tot5 a b (by omega) (by omega) (by omega), fun b q => tot5 440 b (by omega) (by omega) (by omega)⟩
                have x6 : m5 359 6 = m 359 6 := y4 _ _ (by omega)
                have x7 : m5 359 7 = m 359 7 := y4 _ _ (by omega)
                have st5 : s_st g m5 n5 := i1.go y4.cf mf5 x6 x7 (n5o _ (by omega)) (n5o _ (by omega))
                have ct5 : s_ct m5 n5 376 := by
                  unfold s_ct at i7 ⊢
                  rw [x6, y4 376 8 (by omega), n5o 29 (by omega), n5o 30 (by omega), n5o 15 (by omega)]
                  exact i7
                have md5 : s_md m5 n5 376 (S - ps) := by
                  unfold s_md
                  unfold l_mx at i8
                  rw [x7, y4 376 9 (by omega), n5o 31 (by omega), n5o 32 (by omega), n5o 17 (by omega)]
                  exact Or.inl i8
                have v4 : v_m n4 V S := G3.1.1.fr G3.2.1 t4.fr
                have e184 : n4 428 18 = 441 := by rw [a4 _ _ (by omega) (by omega)]; exact g18
                have v5 : v_m n5 V S := v4.far (fun b _ _ => f5 _ _ (by omega)) (fun b => by rw [e184]; exact f5 _ _ (by omega))
                have J5 : s_J g m5 n5 376 V S ps := ⟨st5, y8, by rw [y7]; decide, v5, Or.inr (by rw [f5 _ _ (by omega), e184]; decide), y5, by rw [n5o 27 (by omega)]; exact i6, ct5, md5, by rw [n5o 17 (by omega)]; omega⟩
                have k5 : m_tk n5 V S (e_kw V S ps) := l_tk56 k4 (fun i j q => f5 i j (by omega))
                refine w_C.nm (fun nm5' => ?_)
                obtain ⟨r, m6, r', n6, cc2, nm6, mrun, nm6', sR⟩ := s_objE (d := 0) J5 nm5 nm5' (by rw [y4 _ _ (by omega)]; exact i4.1) k5
                refine (mrun.deep (by omega)).to ⟨by omega, by omega, ?_⟩
                rw [show w_8 2 = 2 from w_8_id (by decide) (by decide)]
                obtain ⟨n7, hn7⟩ : ∃ n7, n7 = w_up (w_up n6 455 k r') 456 k 2 := ⟨_, rfl⟩
                rw [← hn7]
                have f7 : ∀ i j : Int, ¬ ((i = 455 ∨ i = 456) ∧ j = k) → n7 i j = n6 i j := fun i j q => by rw [hn7, l_up (by omega), l_up (by omega)]
                have upto : ∀ X : Int → w_M → Prop, xp_lo_readObject_52 (c + 59) k 1 r m6 X → xc_lo_readObject (c + 60) k m X := fun X hX => by
                  refine rd X ?_
                  apply xr_lo_readObject_17
                  rw [if_neg (by decide)]
                  refine y1.to ?_
                  rw [y3, if_neg (by decide)]
                  exact (cc2.deep (by omega)).to hX
                have n15 : l_n1 n n5 k := fun i j q1 q2 q3 => tot5 i j (by omega) (by omega) (by omega)
                rcases sR with sB | sO
                · obtain ⟨u1, u2, u3, u4, u5, u6⟩ := sB
                  have f27 : n7 428 27 ≠ 0 := by rw [f7 _ _ (by omega), ← u3]; exact u2
                  refine HF n7 m6 (n15.qn.tr ((u6.q1 (k := k)).qn.tr (fun i j q1 q2 q3 => f7 i j (by omega)))) f27 (y4.q0.tr (u5.q0 st5.1)).qc nm6 u2 (fun X hX => ?_)
                  refine upto X ?_
                  rw [u1]
                  apply xr_lo_readObject_52
                  rw [if_pos (by decide), if_pos (by decide)]
                  exact hX
                · obtain ⟨ga, e', w1, w2, w3, w4, w5, w6, w7, w8, w9⟩ := sO
                  rw [n5o 15 (by omega)] at w2 w6
                  rw [x6] at w1
                  have tp : s_tp ga m n m6 n6 21 := w9.mv x6 (n5o 15 (by omega))
                  have fc : l_c1 m m6 := y4.q0.tr (w7.q0 st5.1)
                  have fn : l_n1 n n6 k := n15.tr w8.q1
                  obtain ⟨mz, hmz⟩ : ∃ mz, mz = w_up (w_up m6 370 k r) 369 k 0 := ⟨_, rfl⟩
                  have fz : ∀ i j : Int, ¬ (369 ≤ i ∧ i ≤ 370 ∧ j = k) → mz i j = m6 i j := fun i j q => by rw [hmz, l_up (by omega), l_up (by omega)]
                  have u6 : l_us m6 k := us.fr (fc _ _ (by omega) (by omega) (by omega) (by omega)) (fc _ _ (by omega) (by omega) (by omega) (by omega))
                  have hs6 : m6 366 11 ≤ 200 := by rw [fc _ _ (by omega) (by omega) (by omega) (by omega)]; exact hs
                  have set : xc_ta_settle (c + 59) k r m6 (w_q 0 mz) := sp_settle_y (d := c + 57) u6 hs6 (by rw [hmz]; exact ⟨rfl, rfl⟩)
                  have nmz := (w_C.ke set nm6 (l_nsr (by decide) (l_nsi (by omega) (l_nsi (by rw [w1]; omega) l_ns0)))).1
                  have r2 : l_rb n6 n7 k := fun i j q1 q2 q3 => f7 i j q3
                  have f21 : ∀ i j : Int, ¬ (i = 376 ∧ j ≠ 8 ∧ j ≠ 9 ∧ j ≠ 10) → ¬ (369 ≤ i ∧ i ≤ 370 ∧ j = k) → ¬ (i = 394 ∧ j = 9) → ¬ (396 ≤ i ∧ i ≤ 398) → mz i j = m6 i j := fun i j z1 z2 z3 z4 => fz i j z2
                  have e55 : n7 455 k = n 428 15 := by rw [hn7, w_up_ne (by decide), w_up_eq]; exact w2
                  have e56 : n7 456 k = 2 := by rw [hn7, w_up_eq]
                  have hcf : s_cf m m6 := y4.cf.tr (w7.cf (Or.inl rfl))
                  have hmf : s_mf n n6 := mf5.tr w8.mf
                  have tr6 : l_tr ga n6 C (n 428 15) := l_tr.of tp w5.1 i14.2.1 bd.1
                  have en : ∀ i j : Int, 441 ≤ i → ¬ ((i = 455 ∨ i = 456) ∧ j = k) → n7 i j = n i j := fun i j q z => by rw [f7 i j z]; exact fn i j (by omega) (by omega) z
                  have cm : ∀ i j : Int, 394 ≤ i → i ≤ 398 → mz i j = m i j := fun i j z1 z2 => by rw [fz i j (by omega)]; exact fc i j (by omega) (by omega) (by omega) (by omega)
                  have p1 := tp.1
                  have hko : l_o ga mz n7 C k := l_o.don (i12 k (by omega) k2) hI hk (Or.inr h1) (fun z => by omega) h0 fc fn tr6 w5.1 f21 r2 e55 e56 (by rw [if_pos h1, hmz, w_up_eq]) (by rw [hmz, w_up_ne (by decide), w_up_eq, w1]; exact p1.symm)
                  have hwt : l_wt ga mz n7 := i13.fr i12 i9.1.2 (cm _ _ (by omega) (by omega)) (fun i j z1 z2 _ _ => cm i j (by omega) z2) (by rw [f7 _ _ (by omega)]; exact fn _ _ (by omega) (by omega) (by omega)) (fun j => en 451 j (by decide) (by omega)) (fun j j0 j1 => by
                    by_cases z : j = k
                    · rw [z, h0, e56]
                      exact ⟨⟨fun z => absurd z (by decide), fun z => absurd z (by decide)⟩, fun z => absurd z (by decide)⟩
                    · rw [en 456 j (by decide) (by omega), en 455 j (by decide) (by omega)]
                      exact ⟨Iff.rfl, fun _ => rfl⟩) w6 (hmf.tr r2.mf)
                  have z9 : mz 394 9 = 0 := by rw [cm _ _ (by omega) (by omega)]; exact h9
                  obtain ⟨I1, cf1, mf1⟩ := l_come hI hk h0 fc fn hcf hmf w6 w5.1 w5.2.2.2.2.2.2.2.1 w5.2.2.2.2.2.2.2.2.1 tp f21 r2 (by rw [fz _ _ (by omega)]; exact w5.2.2.2.2.2.1) (by rw [f7 _ _ (by omega)]; exact w5.2.2.2.2.2.2.1) e55 (by rw [e56]; decide) hko hwt (fun z => by rw [z9] at z; omega)
                  refine HG ga n7 mz I1 nmz (fn.qn.tr r2.q1.qn) (fc.qc.tr (fun i j q1 q2 q3 q4 q5 q6 q7 q8 => fz i j (by omega))) cf1 mf1 w6 z9 e56 (fun x hx => ⟨en 456 x (by decide) (by omega), en 455 x (by decide) (by omega)⟩) (fun X hX => ?_)
                  refine upto X ?_
                  apply xr_lo_readObject_52
                  rw [if_neg (by omega), if_neg (by decide)]
                  exact set.to hX
              · -- a wrong pair
                have run : xc_lo_findInside (c + 59) k m (fun r m' => r = 0 ∧ l_op m m' ∧ m' 376 6 ≠ 0) := by
                  refine toM _ ?_
                  exact c_in (d := c + 53) (T := T) u4 hs4 ⟨c5, by omega⟩ ⟨by omega, F0r⟩ (by rw [o4 _ _ (by omega)]; exact hT.symm) o43 (by omega) (fun v2 v20 hv2 => absurd ⟨v2, v20, hv2⟩ z) (fun _ m5 f5 z5 => ⟨rfl, o4.tr f5, z5⟩) N0.toNat 0 0 (-1) m4 (by omega) (by decide) c_ch.rf o4s (by decide) (by decide) lin0
                exact cfail run n2 (fun i j q1 q2 q3 => by rw [f2 i j (by omega) (by rw [f1 _ _ (by omega)]; omega)]; exact f1 i j (by omega)) z2
            · rw [if_neg q4]
              refine sp_m_fail ?_
              have run : xc_lo_findInside (c + 59) k m (fun r m' => r = 0 ∧ l_op m m' ∧ m' 376 6 ≠ 0) := by
                refine toM _ ?_
                refine c_in (d := c + 53) (T := T) u4 hs4 ⟨c5, by omega⟩ ⟨by omega, F0r⟩ (by rw [o4 _ _ (by omega)]; exact hT.symm) o43 (by omega) (fun v2 v20 hv2 => ?_) (fun _ m5 f5 z5 => ⟨rfl, o4.tr f5, z5⟩) N0.toNat 0 0 (-1) m4 (by omega) (by decide) c_ch.rf o4s (by decide) (by decide) lin0
                have := l_in_no _ _ _ _ _ (by
                  rw [hT, ka9]
                  split
                  · exact Or.inl (by decide)
                  · exact Or.inr (by omega)) hv2
                omega
              exact bad n m_ag.rf (cfail run)
    · rw [if_pos rfl]
      refine r170 (cfail ?_)
      refine isS _ ?_
      refine z_ite (fun _ => fi97 _ _) (fun _ => ?_)
      refine z_ite (fun _ => fi97 _ _) (fun _ => ?_)
      refine z_ite (fun _ => fi97 _ _) (fun _ => ?_)
      refine sp_st_entry (d := c + 55) i1 i2 (by decide) r0 c2 ?_
      rw [← hty]
      refine sp_st_isName (d := c + 55) i1 i2 (by decide) tno (fun z => absurd z zn) (fun _ => ?_)
      rw [if_pos rfl]
      exact fi97 _ _
end SJ2
