/-! ===== the loader: an object at its place, up to behind it, both sides ===== -/
section SB2
variable {d c : Nat} {g g' g2 : s_g} {m m' m1 m2 m3 n n' n1 n2 : w_M} {Q : Int → w_M → Prop} {W : Int → Int} {L p k v x y C r : Int}
theorem s_tp.mv (h : s_tp g m1 n1 m2 n2 r) (h6 : m1 359 6 = m 359 6) (h15 : n1 428 15 = n 428 15) : s_tp g m n m2 n2 r := by
  unfold s_tp at h ⊢
  rw [h6, h15] at h
  exact h
theorem l_u17 (h : l_I g m n W L C) : 0 ≤ n 428 17 ∧ n 428 17 ≤ 60000 := by
  obtain ⟨_, _, _, _, _, _, _, ⟨_, _, _, _, _, _⟩, _⟩ := h
  omega
theorem l_obj (hI : l_I g m n W L C) (hk : 1 ≤ k ∧ k < n 428 60) (h1 : n 451 k ≠ 0) : l_us m k ∧ m 366 11 ≤ 200 ∧ k < 200 := by
  obtain ⟨i1, i2, i3, i4, i5, i6, i7, i8, i9, i10, i11, i12, i13, i14, i15⟩ := hI
  have ho := i12 k (by omega) (by omega)
  rcases ho with h | ⟨a1, a2, a3, a4, a5, a6, a7, a8, a9, b1, b2, b3⟩
  · omega
  · exact ⟨⟨by omega, by omega, by omega⟩, by omega, by omega⟩
theorem s_placed (hI : l_I g m n W L C) (hm : w_nm (w_G0 sC) m) (hk : 1 ≤ k ∧ k < n 428 60) (h1 : n 451 k = 1) (h0 : n 456 k = 0)
    (HF : ∀ n' m', l_n n n' → n' 428 27 ≠ 0 → l_c m m' → w_nm (w_G0 sC) m' → m' 376 6 ≠ 0 → (∀ X, xp_lo_readObject_52 (c + 59) k 0 (-1) m' X → xc_lo_readObject (c + 60) k m X) → Q 0 n')
    (HO : ∀ g' n' m' e, l_c1 m m' → l_n1 n n' k → s_cf m m' → s_mf n n' → s_ex g g' (n 428 15) → s_J g' m' n' 376 W L e → e_J m' W L e → n 453 k ≤ 2147483647 → n' 428 21 = e → m' 376 3 = 0 → n' 456 k = 1 → s_tp g' m n m' n' 21 → w_nm (w_G0 sC) m' → (∀ X, xp_lo_readObject_52 (c + 59) k 0 (m 359 6) m' X → xc_lo_readObject (c + 60) k m X) → l_rest (d + 60) k (n 452 k) Q (n 428 15) n') : xc_m_readAt (d + 61) k n Q := by
  obtain ⟨i1, i2, i3, i4, i5, i6, i7, i8, i9, i10, i11, i12, i13, i14, i15⟩ := id hI
  obtain ⟨us, hs, k2⟩ := l_obj hI hk (by omega)
  have u17 := l_u17 hI
  have ho := i12 k (by omega) k2
  have kn := e_kn.of ho h1
  have L8 := i5.2.1
  have L0 := i5.1.1
  obtain ⟨o1, o2, o3, o4, o5, o6⟩ : m 367 k = 2 ∧ m 368 k = min (n 452 k) 2147483647 ∧ 0 ≤ n 452 k ∧ 0 ≤ n 453 k ∧ -1 ≤ m 369 k ∧ m 369 k ≤ 2147483647 := by
    rcases ho with h | ⟨a1, a2, a3, a4, a5, a6, a7, a8, a9, b1, b2, b3⟩
    · omega
    · rw [if_neg (show ¬ (n 451 k = 2 ∧ n 456 k = 2) by omega)] at a9
      refine ⟨by omega, a4, a5, a6.1, ?_, ?_⟩
      · rw [a9]; split <;> omega
      · rw [a9]; split <;> omega
  have st52 : ∀ X m1, xp_lo_readObject_17 (c + 59) k 0 m X → m1 = m → xc_lo_readObject (c + 60) k m X := fun X _ hX _ => by
    apply xr_lo_readObject
    refine sp_howOf_y (d := c + 57) us hs ?_
    rw [o1, if_neg (by decide)]
    exact hX
  have lh := l_heads (k := k) i5.1 L8 kn h1
  refine r_readAt (d := d + 54) i5 i6 ⟨by omega, k2⟩ ⟨u17.1, by omega⟩ o3 (fun q hd q1 q2 n4 rh e56 z27 G4 => ?_) (fun z n' rh z27 => ?_)
  · -- its head is there
    have hh : l_hd m W L k := lh.mpr ⟨q, hd, q1, q2⟩
    have epl : l_pl m L k = n 452 k := by
      unfold l_pl
      rw [if_neg (by omega), o2]
      omega
    obtain ⟨p, hp⟩ : ∃ p, p = e_p3 W L (n 452 k) + 3 := ⟨_, rfl⟩
    rw [← hp] at G4
    have run : xc_lo_findPlaced (c + 59) k m (fun r m1 => r = 1 ∧ l_op m m1 ∧ m1 376 6 = m 376 6 ∧ m1 376 3 = 0 ∧ e_J m1 W L p) :=
      sp_findPlaced (d := c + 51) i3 us hs o5 (fun _ m1 a b e J => ⟨rfl, a, b, e, by rw [epl, ← hp] at J; exact J⟩) (fun z => absurd hh z)
    obtain ⟨r1, m1, crun, nm1, er, f1, e6, e3, J1⟩ := r_get run hm (l_nsr (by decide) (l_nsi (by omega) l_ns0))
    refine r_tok (d := d + 55) G4 (fun n5 t5 k5 => ?_)
    have x6 : m1 359 6 = m 359 6 := f1 _ _ (by omega)
    have x7 : m1 359 7 = m 359 7 := f1 _ _ (by omega)
    have n5o : ∀ j : Int, ¬ ((18 ≤ j ∧ j ≤ 28) ∨ j = 77 ∨ j = 78) → n5 428 j = n 428 j := fun j z => by
      rw [t5 _ _ (by omega) (by omega)]
      exact rh _ _ (by omega) (by omega) (by omega)
    have sm5 : s_mf n n5 := rh.mf.tr t5.fr.mf
    have st5 : s_st g m1 n5 := i1.go f1.cf sm5 x6 x7 (n5o _ (by omega)) (n5o _ (by omega))
    have z275 : n5 428 27 = 0 := by rw [t5 _ _ (by omega) (by omega)]; exact z27
    have e565 : n5 456 k = 1 := by rw [t5 _ _ (by omega) (by omega)]; exact e56
    have ct5 : s_ct m1 n5 376 := by
      unfold s_ct at i7 ⊢
      rw [x6, f1 376 8 (by omega), n5o 29 (by omega), n5o 30 (by omega), n5o 15 (by omega)]
      exact i7
    have md5 : s_md m1 n5 376 (L - p) := by
      unfold s_md
      unfold l_mx at i8
      rw [x7, f1 376 9 (by omega), n5o 31 (by omega), n5o 32 (by omega), n5o 17 (by omega)]
      exact Or.inl i8
    have bp := J1.1.bd
    have J5 : s_J g m1 n5 376 W L p := ⟨st5, J1.1, by rw [J1.2]; decide, G4.1.1.fr G4.2.1 t5.fr, by rw [t5 _ _ (by omega) (by omega)]; exact G4.2.1, by rw [e6]; exact i4.2, z275, ct5, md5, by rw [n5o 17 (by omega)]; omega⟩
    refine w_C.nm (fun nm5 => ?_)
    obtain ⟨r, m6, r', n6, c2, nm6, mrun, nm6', sR⟩ := s_objE (d := 0) J5 nm1 nm5 (by rw [f1 _ _ (by omega)]; exact i4.1) k5
    refine (mrun.deep (by omega)).to ?_
    have upto : ∀ X, xp_lo_readObject_52 (c + 59) k 0 r m6 X → xc_lo_readObject (c + 60) k m X := fun X hX => by
      refine st52 X m ?_ rfl
      apply xr_lo_readObject_17
      rw [if_pos rfl]
      refine crun.to ?_
      rw [er, if_neg (by decide)]
      exact (c2.deep (by omega)).to hX
    have bd5 := st5.1
    rcases sR with sB | sO
    · obtain ⟨u1, u2, u3, u4, u5, u6⟩ := sB
      have f27 : n6 428 27 ≠ 0 := by rw [← u3]; exact u2
      unfold l_rest
      refine r_gd ?_
      rw [if_neg f27, if_pos rfl]
      rw [u1] at upto
      exact HF n6 m6 (rh.q1.tr (t5.q1.tr u6.q1)).qn f27 (f1.q0.tr (u5.q0 bd5)).qc nm6 u2 upto
    · obtain ⟨ga, e', o1, o2, o3, o4, o5, o6, o7, o8, o9⟩ := sO
      rw [n5o 15 (by omega)] at o6 o2
      rw [x6] at o1
      rw [o1] at upto
      rw [o2]
      exact HO ga n6 m6 e' (f1.q0.tr (o7.q0 bd5)) (rh.q1.tr (t5.q1.tr o8.q1)) (f1.cf.tr (o7.cf (Or.inl rfl))) (sm5.tr o8.mf) o6 o5 ⟨o5.2.1, by rw [o7.2.2 _ _ (by omega) (by omega) (by omega) (by omega)]; exact J1.2⟩ (by have := e_un0 hd.2.1; omega) o4 (by rw [o7.2.2 _ _ (by omega) (by omega) (by omega) (by omega)]; exact e3) (by rw [o8.2.2 _ _ (by omega) (by omega) (by omega)]; exact e565) (o9.mv x6 (n5o 15 (by omega))) nm6 upto
  · have nh : ¬ l_hd m W L k := fun w => z (lh.mp w)
    have run : xc_lo_findPlaced (c + 59) k m (fun r m1 => r = 0 ∧ l_op m m1 ∧ m1 376 6 ≠ 0) :=
      sp_findPlaced (d := c + 51) i3 us hs o5 (fun w => absurd w nh) (fun _ m1 a b => ⟨rfl, a, b⟩)
    obtain ⟨r1, m1, crun, nm1, er, f1, e6⟩ := r_get run hm (l_nsr (by decide) (l_nsi (by omega) l_ns0))
    refine HF n' m1 rh.q1.qn z27 f1.q0.qc nm1 e6 (fun X hX => ?_)
    refine st52 X m ?_ rfl
    apply xr_lo_readObject_17
    rw [if_pos rfl]
    refine crun.to ?_
    rw [er, if_pos rfl]
    exact hX
end SB2
