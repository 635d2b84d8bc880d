/-! ===== the loader: all objects, both sides ===== -/
section SK2
variable {d c e : Nat} {g g' : s_g} {m m' m1 m2 n n' n1 n2 : w_M} {Q R : Int → w_M → Prop} {W : Int → Int} {L p k v v' x y P r b w C i l2 l5 o : Int}
theorem c_fo2 (hs : m1 366 11 ≤ 200) (nm : w_nm (w_G0 sC) m1) (hk : 0 ≤ k ∧ k ≤ 2147483647) : ∃ m', l_op m1 m' ∧ w_nm (w_G0 sC) m' ∧ m' 376 6 ≠ 0 ∧ ∀ R : Int → w_M → Prop, R (-1) m' → xc_lo_failObject (c + 3) k m1 (fun r m' => R r m') := by
  have run : xc_lo_failObject (c + 3) k m1 (fun r m' => r = -1 ∧ l_op m1 m' ∧ m' 376 6 ≠ 0) := sp_failObject (d := c) hs (fun m' f' y => ⟨rfl, f', y⟩)
  obtain ⟨r, m', y1, y2, y3, y4, y5⟩ := r_get run nm (l_nsr (by decide) (l_nsi (by omega) l_ns0))
  exact ⟨m', y4, y2, y5, fun R hR => y1.to (by rw [y3]; exact hR)⟩
/-- a number that is read, one that is free: the class goes on -/
theorem c_nx (hI : l_I g m n W L C) (h9 : ∀ x, 1 ≤ x → x < k → n 451 x ≠ 0 → n 456 x = 2) (hk : k ≤ n 428 60) (hR : xp_lo_nextUnread_2 (c + 59) k m R) : ∀ (j : Nat) (i : Int), i + j = k → 1 ≤ i → xp_lo_nextUnread_2 (c + 59) i m R := by
  obtain ⟨i1, i2, i3, i4, i5, i6, i7, i8, i9, i10, i11, i12, i13, i14, i15⟩ := id hI
  intro j
  induction j with
  | zero =>
    intro i hi i0
    have : i = k := by omega
    rw [this]
    exact hR
  | succ j ih =>
    intro i hi i0
    have nx := ih (i + 1) (by omega) (by omega)
    apply xr_lo_nextUnread_2
    rw [if_pos (by omega), w_32_id (x := i + 1) (by omega) (by omega)]
    by_cases q : n 451 i = 0
    · have e67 : m 367 i = 1 := by
        rcases i12 i (by omega) (by omega) with z | z
        · exact z.2.1 i0
        · omega
      refine sp_isFree_n (d := c + 58) (fun z => z.2.2 e67) ?_
      rw [if_neg (by decide)]
      exact nx
    · obtain ⟨us, hs, k2⟩ := l_obj hI ⟨i0, by omega⟩ q
      obtain ⟨a1, a2, a3, a4, a5, a6, a7, a8, a9, b1, b2, b3⟩ := (i12 i (by omega) k2).resolve_left (fun z => q z.1)
      have e2 := h9 i i0 (by omega) q
      have tr := b1 (by omega)
      have g41 : 41 ≤ g.1 (n 455 i) := (i1.2.1 (n 455 i) tr.1 (by have := tr.2.1; have := tr.2.2.1; omega)).1
      refine sp_isFree_y (d := c + 58) us hs ?_
      rw [if_pos rfl]
      refine sp_rootOf_y (d := c + 58) us hs ?_
      rw [(b3 e2).1, if_neg (by omega)]
      exact nx
theorem c_next (hI : l_I g m n W L C) (h9 : ∀ x, 1 ≤ x → x < k → n 451 x ≠ 0 → n 456 x = 2) (hk : 1 ≤ k ∧ k < n 428 60) (h1 : n 451 k ≠ 0) (h0 : n 456 k = 0)
    (hR : xc_ta_howOf (c + 59) k m (fun r3 m3 => if r3 = 3 then (xc_ta_placeOf (c + 59) k m3 (fun r4 m4 => xc_ta_howOf (c + 59) r4 m4 (fun r5 m5 => if r5 = 2 then (xc_ta_generationOf (c + 59) r4 m5 (fun r6 m6 => if r6 = 0 then (xc_ta_rootOf (c + 59) r4 m6 (fun r7 m7 => if r7 < 0 then (R r4 m7) else (R k m7))) else (xc_lo_failObject (c + 59) r4 m6 (fun r8 m8 => R r8 m8)))) else (xc_lo_failObject (c + 59) r4 m5 (fun r9 m9 => R r9 m9))))) else (R k m3))) : xc_lo_nextUnread (c + 60) m R := by
  obtain ⟨i1, i2, i3, i4, i5, i6, i7, i8, i9, i10, i11, i12, i13, i14, i15⟩ := id hI
  obtain ⟨us, hs, k2⟩ := l_obj hI hk h1
  obtain ⟨a1, a2, a3, a4, a5, a6, a7, a8, a9, b1, b2, b3⟩ := (i12 k (by omega) k2).resolve_left (fun z => h1 z.1)
  apply xr_lo_nextUnread
  refine c_nx (c := c) hI h9 (by omega) ?_ (k - 1).toNat 1 (by omega) (by decide)
  apply xr_lo_nextUnread_2
  rw [if_pos (by omega)]
  refine sp_isFree_y (d := c + 58) us hs ?_
  rw [if_pos rfl]
  refine sp_rootOf_y (d := c + 58) us hs ?_
  rw [(b2 (by omega)).1, if_pos (by decide)]
  exact hR
theorem c_none (hI : l_I g m n W L C) (h9 : ∀ x, 1 ≤ x → x < n 428 60 → n 451 x ≠ 0 → n 456 x = 2) (hR : R 0 m) : xc_lo_nextUnread (c + 60) m R := by
  obtain ⟨i1, i2, i3, i4, i5, i6, i7, i8, i9, i10, i11, i12, i13, i14, i15⟩ := id hI
  apply xr_lo_nextUnread
  refine c_nx (c := c) hI h9 (Int.le_refl _) ?_ (n 428 60 - 1).toNat 1 (by omega) (by decide)
  apply xr_lo_nextUnread_2
  rw [if_neg (by omega)]
  exact hR
theorem c_138_n (hi : 0 ≤ i ∧ i < 1000) (h9 : m 394 9 = 0) (h : xc_lo_nextUnread (d + 1) m (fun r2 m2 => if 0 < r2 then (xc_lo_readObject (d + 1) r2 m2 (fun _ m3 => xp_x_load_197 (d + 1) l2 i 0 r2 m3 Q)) else (xp_x_load_197 (d + 1) l2 i 0 r2 m2 Q))) : xp_x_load_138 (d + 1) l2 1 i m Q := by
  apply xr_x_load_138
  rw [if_pos hi.2, if_neg (by decide)]
  apply xr_lo_isWaiting
  rw [if_neg (by omega), if_pos rfl]
  exact h
theorem r_118_bad (h : n 428 27 ≠ 0) (hQ : xp_m_load_173 (d + 1) n Q) : xp_m_load_118 (d + 1) k n Q := by
  have g0 : f_m_good n = 0 := if_neg h
  apply xr_m_load_118
  refine z_ite (fun _ => ?_) (fun _ => ?_)
  · refine sp_m_good (d := d) ?_
    rw [g0, if_pos rfl]
    refine sp_m_good (d := d) ?_
    rw [g0, if_pos rfl]
    exact hQ
  · refine sp_m_good (d := d) ?_
    rw [g0, if_pos rfl]
    exact hQ
/-- number k, at the top -/
def l_TT (c : Nat) (l2 : Int) (W : Int → Int) (L C k i : Int) (m n : w_M) (n' : w_M) : Prop :=
  (∃ m', l_n n n' ∧ n' 428 27 ≠ 0 ∧ l_c m m' ∧ w_nm (w_G0 sC) m' ∧ m' 376 6 ≠ 0 ∧ ∀ X, xp_x_load_229 (c + 60) l2 m' X → xp_x_load_138 (c + 60) l2 1 i m X) ∨
  ∃ g' m', l_n n n' ∧ l_c m m' ∧ w_nm (w_G0 sC) m' ∧ l_I g' m' n' W L C ∧ m' 394 9 = 0 ∧ n' 456 k = 2 ∧ (∀ x, 0 ≤ x → x < 200 → x ≠ k → n 456 x ≠ 0 → n' 456 x = n 456 x) ∧ ∃ i', 0 ≤ i' ∧ i' + 2 * l_un n' ≤ i + 2 * l_un n ∧ ∀ X, xp_x_load_138 (c + 60) l2 1 i' m' X → xp_x_load_138 (c + 60) l2 1 i m X
theorem s_atop (hI : l_I g m n W L C) (hm : w_nm (w_G0 sC) m) (h9 : m 394 9 = 0) (hmin : ∀ x, 1 ≤ x → x < k → n 451 x ≠ 0 → n 456 x = 2) (hk : 1 ≤ k ∧ k < n 428 60) (h1 : n 451 k ≠ 0) (h0 : n 456 k = 0) (hi : 0 ≤ i) (hU3 : i + 2 * l_un n ≤ 600) :
    xc_m_readObject (e + 464) k n (fun _ n' => l_TT c l2 W L C k i m n n') := by
  obtain ⟨i1, i2, i3, i4, i5, i6, i7, i8, i9, i10, i11, i12, i13, i14, i15⟩ := id hI
  obtain ⟨us, hs, k2⟩ := l_obj hI hk h1
  obtain ⟨a1, a2, a3, a4, a5, a6, a7, a8, a9, b1, b2, b3⟩ := (i12 k (by omega) k2).resolve_left (fun z => h1 z.1)
  rw [if_neg (show ¬ (n 451 k = 2 ∧ n 456 k = 2) by omega)] at a9
  have un1 := l_un_0 (k := k) (n := n) ⟨hk.1, k2⟩ h0
  have un2 : l_un n ≤ 199 := l_uc_le n 199
  apply xr_m_readObject
  refine ⟨by omega, ?_⟩
  by_cases q1 : n 451 k = 1
  · rw [if_pos q1]
    refine w_C.more (s_readAt (e := e + 2) (c := c) (l2 := l2) 200 g m n k i 0 hI hm hk q1 h0 (by show l_un n ≤ 200; omega) (by omega) hi (by omega)) (fun _ n1 hp => ?_)
    have pre : ∀ X, xc_lo_readObject (c + 60) k m (fun _ m1 => xp_x_load_197 (c + 60) l2 i 0 k m1 X) → xp_x_load_138 (c + 60) l2 1 i m X := fun X hX => by
      refine c_138_n (d := c + 59) ⟨hi, by omega⟩ h9 ?_
      refine c_next (c := c) hI hmin hk h1 h0 ?_
      refine sp_howOf_y (d := c + 57) us hs ?_
      rw [if_neg (by omega), if_pos (by omega)]
      exact hX
    rcases hp with ⟨mz, p1, p2, p3, p4, p5, p6⟩ | ⟨g1, m1, p1, p2, p3, p4, I1, p6, p7, p8, p9, p10, p11, p12, p13, p14, p16, i', j0, j1, p15⟩
    · exact Or.inl ⟨mz, p1, p2, p3, p4, p5, fun X hX => pre X (p6 X hX)⟩
    · exact Or.inr ⟨g1, m1, p1, p3, p4, I1, by rw [p9]; exact h9, p11, fun x x0 x1 xk x2 => (p12 x x0 x1 xk x2).1, i', j0, j1, fun X hX => pre X (p15 X hX)⟩
  · rw [if_neg q1]
    have e2 : n 451 k = 2 := by omega
    obtain ⟨o, ho⟩ : ∃ o, o = n 452 k := ⟨_, rfl⟩
    have L8 := i5.2.1
    -- the class at nextUnread
    have opn : ∀ (Z : Int → w_M → Prop), (xc_ta_howOf (c + 59) (m 368 k) m (fun r5 m5 => if r5 = 2 then (xc_ta_generationOf (c + 59) (m 368 k) m5 (fun r6 m6 => if r6 = 0 then (xc_ta_rootOf (c + 59) (m 368 k) m6 (fun r7 m7 => if r7 < 0 then (Z (m 368 k) m7) else (Z k m7))) else (xc_lo_failObject (c + 59) (m 368 k) m6 (fun r8 m8 => Z r8 m8)))) else (xc_lo_failObject (c + 59) (m 368 k) m5 (fun r9 m9 => Z r9 m9)))) → xc_lo_nextUnread (c + 60) m Z := fun Z hZ => by
      refine c_next (c := c) hI hmin hk h1 h0 ?_
      refine sp_howOf_y (d := c + 57) us hs ?_
      rw [if_pos (by omega)]
      exact sp_placeOf_y (d := c + 57) us hs hZ
    -- both fail
    have fail : ¬ (1 ≤ o ∧ o < n 428 60 ∧ n 451 o = 1 ∧ n 453 o = 0) → ∀ n', l_n n n' → n' 428 27 ≠ 0 → l_TT c l2 W L C k i m n n' := by
      intro z n' fn z'
      obtain ⟨mz, v1, v2, v3, v4⟩ := c_fo2 (c := c + 56) (k := m 368 k) (m1 := m) hs hm (by omega)
      refine Or.inl ⟨mz, fn, z', v1.qc, v2, v3, fun X hX => ?_⟩
      refine c_138_n (d := c + 59) ⟨hi, by omega⟩ h9 ?_
      refine opn _ ?_
      have done : xc_lo_failObject (c + 59) (m 368 k) m (fun r8 m8 => if 0 < r8 then (xc_lo_readObject (c + 60) r8 m8 (fun _ m3 => xp_x_load_197 (c + 60) l2 i 0 r8 m3 X)) else (xp_x_load_197 (c + 60) l2 i 0 r8 m8 X)) := by
        refine v4 _ ?_
        rw [if_neg (by decide)]
        exact c_197_bad v3 hX
      by_cases uo : l_us m (m 368 k)
      · refine sp_howOf_y (d := c + 57) uo hs ?_
        refine z_ite (fun y2 => ?_) (fun _ => done)
        refine sp_generationOf_y (d := c + 57) uo hs ?_
        refine z_ite (fun y3 => ?_) (fun _ => done)
        exfalso
        obtain ⟨u1, u2, u3⟩ := uo
        have eo : m 368 k = o := by omega
        rw [eo] at u1 u2 u3 y2 y3
        obtain ⟨w1, w2, w3, w4, w5, w6, w7, w8, w9, w10, w11, w12⟩ := (i12 o (by omega) (by omega)).resolve_left (fun z => by have := z.2.1 (by omega); omega)
        rw [if_neg (show ¬ (n 451 o = 2 ∧ n 456 o = 2) by omega)] at w9
        refine z ⟨by omega, by omega, by omega, ?_⟩
        rw [w9] at y3
        split at y3 <;> omega
      · refine sp_howOf_n (d := c + 57) uo ?_
        rw [if_neg (by decide)]
        exact done
    have rbad : ∀ v, ¬ (1 ≤ o ∧ o < n 428 60 ∧ n 451 o = 1 ∧ n 453 o = 0) → l_TT c l2 W L C k i m n (m_fl n 6 v) := fun v z => fail z _ (fun i j q1 q2 q3 => m_fl_o (by omega)) (m_fl_ne i6 (by decide))
    apply xr_m_readIn
    refine ⟨by omega, ?_⟩
    rw [← ho]
    by_cases q2 : o < 1
    · rw [if_pos q2]
      exact sp_m_fail (rbad _ (fun z => by omega))
    · rw [if_neg q2]
      by_cases q3 : o < n 428 60
      · rw [if_pos q3, w_32_id (x := o) (by omega) (by omega)]
        refine ⟨by omega, ?_⟩
        by_cases q4 : n 451 o = 1
        · rw [if_pos q4]
          refine ⟨by omega, ?_⟩
          have eo : m 368 k = o := by omega
          rw [eo] at opn
          obtain ⟨uo, _, o2⟩ := l_obj hI ⟨by omega, q3⟩ (by omega)
          obtain ⟨w1, w2, w3, w4, w5, w6, w7, w8, w9, w10, w11, w12⟩ := (i12 o (by omega) o2).resolve_left (fun z => by omega)
          rw [if_neg (show ¬ (n 451 o = 2 ∧ n 456 o = 2) by omega)] at w9
          have main : ∀ s0, xp_m_readIn_80 (e + 462) k o s0 n (fun _ n' => l_TT c l2 W L C k i m n n') := by
            intro s0
            apply xr_m_readIn_80
            refine ⟨by omega, ?_⟩
            by_cases q5 : n 453 o = 0
            · rw [if_pos q5]
              refine ⟨by omega, ?_⟩
              rw [if_neg (by omega)] at w9
              by_cases q6 : n 456 o = 0
              · -- the holder first
                rw [if_pos q6]
                refine w_C.more (s_readAt (e := e + 1) (c := c) (l2 := l2) 200 g m n o i 0 hI hm ⟨by omega, q3⟩ q4 q6 (by show l_un n ≤ 200; omega) (by omega) hi (by omega)) (fun _ n1 hp => ?_)
                have pre : ∀ X, xc_lo_readObject (c + 60) o m (fun _ m1 => xp_x_load_197 (c + 60) l2 i 0 o m1 X) → xp_x_load_138 (c + 60) l2 1 i m X := fun X hX => by
                  refine c_138_n (d := c + 59) ⟨hi, by omega⟩ h9 ?_
                  refine opn _ ?_
                  refine sp_howOf_y (d := c + 57) uo hs ?_
                  rw [if_pos (by omega)]
                  refine sp_generationOf_y (d := c + 57) uo hs ?_
                  rw [if_pos (by omega)]
                  refine sp_rootOf_y (d := c + 58) uo hs ?_
                  rw [(w11 (by omega)).1, if_pos (by decide), if_pos (by omega)]
                  exact hX
                rcases hp with ⟨mz, p1, p2, p3, p4, p5, p6⟩ | ⟨g1, m1, p1, p2, p3, p4, I1, p6, p7, p8, p9, p10, p11, p12, p13, p14, p16, i', j0, j1, p15⟩
                · apply xr_m_readIn_119
                  refine r_gd ?_
                  rw [if_neg p2, if_pos rfl]
                  exact Or.inl ⟨mz, p1, p2, p3, p4, p5, fun X hX => pre X (p6 X hX)⟩
                · have ok : o ≠ k := fun z => by rw [z] at q4; exact q1 q4
                  have e60 : n1 428 60 = n 428 60 := p1 _ _ (by omega) (by omega) (by omega)
                  have n45 : ∀ i j, 451 ≤ i → i ≤ 454 → n1 i j = n i j := fun i j z1 z2 => p1 _ _ (by omega) (by omega) (by omega)
                  have q7 : n1 456 k = 0 := by rw [p16 k q1]; exact h0
                  · have z9 : m1 394 9 = 0 := by rw [p9]; exact h9
                    obtain ⟨us1, hs1, _⟩ := l_obj I1 (k := k) (by rw [e60]; exact hk) (by rw [n45 _ _ (by decide) (by decide)]; exact h1)
                    obtain ⟨uo1, _, _⟩ := l_obj I1 (k := o) (by rw [e60]; exact ⟨by omega, q3⟩) (by rw [n45 _ _ (by decide) (by decide)]; omega)
                    have K12 := I1.2.2.2.2.2.2.2.2.2.2.2.1
                    have K1 := I1.1
                    obtain ⟨x1, x2, x3, x4, x5, x6, x7, x8, x9, x10, x11, x12⟩ := (K12 o (by omega) o2).resolve_left (fun z => by rw [n45 _ _ (by decide) (by decide)] at z; omega)
                    obtain ⟨y1, y2, y3, y4, y5, y6, y7, y8, y9, y10, y11, y12⟩ := (K12 k (by omega) k2).resolve_left (fun z => by rw [n45 _ _ (by decide) (by decide)] at z; omega)
                    rw [n45 451 o (by decide) (by decide), n45 453 o (by decide) (by decide), if_neg (by omega), if_neg (by omega)] at x9
                    rw [n45 452 k (by decide) (by decide)] at y4
                    rw [n45 451 o (by decide) (by decide)] at x3
                    rw [n45 451 k (by decide) (by decide)] at y3
                    have tro := x10 (by omega)
                    have g41 : 41 ≤ g1.1 (n1 455 o) := (K1.2.1 (n1 455 o) tro.1 (by have := tro.2.1; have := tro.2.2.1; omega)).1
                    have pre2 : ∀ X, xc_lo_readObject (c + 60) k m1 (fun _ m2 => xp_x_load_197 (c + 60) l2 i' 0 k m2 X) → xp_x_load_138 (c + 60) l2 1 i m X := fun X hX => by
                      refine pre X (p15 X ?_)
                      refine c_138_n (d := c + 59) ⟨j0, by have := l_uc_ge n1 199; have : 0 ≤ l_un n1 := this; omega⟩ z9 ?_
                      refine c_next (c := c) (k := k) I1 (fun x x0 x1 x2 => ?_) (by rw [e60]; exact hk) (by rw [n45 _ _ (by decide) (by decide)]; exact h1) q7 ?_
                      · rw [n45 _ _ (by decide) (by decide)] at x2
                        have := hmin x x0 x1 x2
                        by_cases xo : x = o
                        · rw [xo]; exact p11
                        · rw [(p12 x (by omega) (by omega) xo (by omega)).1]; exact this
                      · refine sp_howOf_y (d := c + 57) us1 hs1 ?_
                        rw [if_pos (by omega)]
                        refine sp_placeOf_y (d := c + 57) us1 hs1 ?_
                        rw [show m1 368 k = o by omega]
                        refine sp_howOf_y (d := c + 57) uo1 hs1 ?_
                        rw [if_pos (by omega)]
                        refine sp_generationOf_y (d := c + 57) uo1 hs1 ?_
                        rw [if_pos (by omega)]
                        refine sp_rootOf_y (d := c + 58) uo1 hs1 ?_
                        rw [(x12 p11).1, if_neg (by omega), if_pos (by omega)]
                        exact hX
                    have r1' : 0 ≤ l_un n1 := l_uc_ge n1 199
                    refine s_inside (d := e + 403) (c := c) (o := o) I1 p4 z9 (by rw [e60]; exact hk) (by rw [n45 _ _ (by decide) (by decide)]; exact e2) q7 (by rw [e60]; exact ⟨by omega, q3⟩) (by rw [n45 _ _ (by decide) (by decide)]; exact ho.symm) (by rw [n45 _ _ (by decide) (by decide)]; exact q4) p11
                      (fun n9 m9 f z fc nm z6 hop => Or.inl ⟨m9, p1.tr f, z, p3.tr fc, nm, z6, fun X hX => pre2 X (hop _ (c_197_bad z6 hX))⟩)
                      (fun g9 n9 m9 I9 nm9 f9 c9 cf9 mf9 ex9 z99 e569 oth hop => Or.inr ⟨g9, m9, p1.tr f9, p3.tr c9, nm9, I9, z99, e569, fun x x0 x1 xk x2 => ?_, i' + 1, by omega, ?_, fun X hX => pre2 X (hop _ (c_197_ok I9.2.2.2.1.2 (Or.inl (by omega)) ⟨j0, by omega⟩ hX))⟩)
                    · rw [(oth x xk).1]
                      by_cases xo : x = o
                      · rw [xo] at x2; exact absurd q6 x2
                      · exact (p12 x x0 x1 xo x2).1
                    · have : l_un n9 = l_un n1 - 1 := l_un_up ⟨hk.1, k2⟩ (fun x xk => (oth x xk).1) q7 (by rw [e569]; decide)
                      omega
              · rw [if_neg q6]
                have e6 : n 456 o = 2 := by
                  rcases w7 with z | z | z
                  · exact absurd z q6
                  · obtain ⟨j, j0, j1, j2⟩ := i13.2.2.2 o (by omega) o2 z
                    omega
                  · exact z
                have tro := w10 (by omega)
                have g41 : 41 ≤ g.1 (n 455 o) := (i1.2.1 (n 455 o) tro.1 (by have := tro.2.1; have := tro.2.2.1; omega)).1
                have pre2 : ∀ X, xc_lo_readObject (c + 60) k m (fun _ m2 => xp_x_load_197 (c + 60) l2 i 0 k m2 X) → xp_x_load_138 (c + 60) l2 1 i m X := fun X hX => by
                  refine c_138_n (d := c + 59) ⟨hi, by omega⟩ h9 ?_
                  refine opn _ ?_
                  refine sp_howOf_y (d := c + 57) uo hs ?_
                  rw [if_pos (by omega)]
                  refine sp_generationOf_y (d := c + 57) uo hs ?_
                  rw [if_pos (by omega)]
                  refine sp_rootOf_y (d := c + 58) uo hs ?_
                  rw [(w12 e6).1, if_neg (by omega), if_pos (by omega)]
                  exact hX
                refine s_inside (d := e + 403) (c := c) (o := o) hI hm h9 hk e2 h0 ⟨by omega, q3⟩ ho.symm q4 e6
                  (fun n9 m9 f z fc nm z6 hop => Or.inl ⟨m9, f, z, fc, nm, z6, fun X hX => pre2 X (hop _ (c_197_bad z6 hX))⟩)
                  (fun g9 n9 m9 I9 nm9 f9 c9 cf9 mf9 ex9 z99 e569 oth hop => Or.inr ⟨g9, m9, f9, c9, nm9, I9, z99, e569, fun x x0 x1 xk x2 => (oth x xk).1, i + 1, by omega, ?_, fun X hX => pre2 X (hop _ (c_197_ok I9.2.2.2.1.2 (Or.inl (by omega)) ⟨hi, by omega⟩ hX))⟩)
                have : l_un n9 = l_un n - 1 := l_un_up ⟨hk.1, k2⟩ (fun x xk => (oth x xk).1) h0 (by rw [e569]; decide)
                omega
            · rw [if_neg q5]
              exact sp_m_fail (rbad _ (fun z => q5 z.2.2.2))
          by_cases q8 : n 452 o < n 428 3
          · rw [if_pos q8]
            exact ⟨by omega, main _⟩
          · rw [if_neg q8]
            exact main _
        · rw [if_neg q4]
          exact sp_m_fail (rbad _ (fun z => q4 z.2.2.1))
      · rw [if_neg q3]
        exact sp_m_fail (rbad _ (fun z => q3 z.2.1))
end SK2
