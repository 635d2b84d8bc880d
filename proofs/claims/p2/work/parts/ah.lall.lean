/-! ===== the loader: all objects are read ===== -/
section SM2
variable {d c e : Nat} {g g' : s_g} {m m' m1 m2 n n' n1 n2 : w_M} {Q R : Int → w_M → Prop} {W : Int → Int} {L p k v v' x y P r b w C i l2 l5 o : Int}
theorem s_all : ∀ (j : Nat) (k : Int) (g : s_g) (m n : w_M) (i : Int), k + j = n 428 60 → 0 ≤ k → l_I g m n W L C → w_nm (w_G0 sC) m → m 394 9 = 0 → (∀ x, 1 ≤ x → x < k → n 451 x ≠ 0 → n 456 x = 2) → 0 ≤ i → i + 2 * l_un n ≤ 600 →
    (∀ n' m', l_n n n' → n' 428 27 ≠ 0 → l_c m m' → w_nm (w_G0 sC) m' → m' 376 6 ≠ 0 → (∀ X, xp_x_load_229 (c + 60) l2 m' X → xp_x_load_138 (c + 60) l2 1 i m X) → xp_m_load_173 (e + 464) n' Q) →
    (∀ g' n' m', l_n n n' → l_c m m' → w_nm (w_G0 sC) m' → l_I g' m' n' W L C → m' 394 9 = 0 → (∀ x, 1 ≤ x → x < n' 428 60 → n' 451 x ≠ 0 → n' 456 x = 2) → (∀ X, xp_x_load_229 (c + 60) l2 m' X → xp_x_load_138 (c + 60) l2 1 i m X) → xc_m_tree (e + 464) n' (fun _ m3 => xp_m_load_173 (e + 464) m3 Q)) →
    xp_m_load_118 (e + 464) k n Q := by
  intro j
  induction j with
  | zero =>
    intro k g m n i hk k0 hI hm h9 hmin hi hU HF HG
    have i6 := hI.2.2.2.2.2.1
    have i4 := hI.2.2.2.1
    have un0 : 0 ≤ l_un n := l_uc_ge n 199
    apply xr_m_load_118
    rw [if_neg (by omega)]
    refine r_gd ?_
    rw [if_pos i6, if_neg (by decide)]
    have hm2 : ∀ x, 1 ≤ x → x < n 428 60 → n 451 x ≠ 0 → n 456 x = 2 := fun x x0 x1 => hmin x x0 (by omega)
    refine HG g n m l_n.rf l_c.rf hm hI h9 hm2 (fun X hX => ?_)
    refine c_138_n (d := c + 59) ⟨hi, by omega⟩ h9 ?_
    refine c_none (c := c) hI hm2 ?_
    rw [if_neg (by decide)]
    apply xr_x_load_197
    rw [if_pos i4.2, if_neg (by decide), if_pos rfl]
    exact c_138_0 hX
  | succ j ih =>
    intro k g m n i hk k0 hI hm h9 hmin hi hU HF HG
    have i6 := hI.2.2.2.2.2.1
    have i9 := hI.2.2.2.2.2.2.2.2.1
    have i12 := hI.2.2.2.2.2.2.2.2.2.2.2.1
    have i13 := hI.2.2.2.2.2.2.2.2.2.2.2.2.1
    apply xr_m_load_118
    rw [if_pos (by omega)]
    refine r_gd ?_
    rw [if_pos i6, if_neg (by decide), w_32_id (x := k + 1) (by omega) (by omega)]
    refine ⟨by omega, ?_⟩
    have skip : (n 451 k ≠ 0 → n 456 k = 2) → xp_m_load_118 (e + 464) (k + 1) n Q := fun h2 =>
      ih (k + 1) g m n i (by omega) (by omega) hI hm h9 (fun x x0 x1 x2 => by
        by_cases z : x = k
        · rw [z] at x2 ⊢; exact h2 x2
        · exact hmin x x0 (by omega) x2) hi hU HF HG
    by_cases q1 : n 451 k = 0
    · rw [if_pos q1]
      exact skip (fun z => absurd q1 z)
    · rw [if_neg q1]
      refine ⟨by omega, ?_⟩
      obtain ⟨a1, a2, a3, a4, a5, a6, a7, a8, a9, b1, b2, b3⟩ := (i12 k (by omega) (by omega)).resolve_left (fun z => q1 z.1)
      by_cases q2 : n 456 k = 0
      · rw [if_pos q2]
        refine w_C.more (s_atop (e := e) (c := c) (l2 := l2) hI hm h9 hmin a1 q1 q2 hi hU) (fun _ n1 hp => ?_)
        rcases hp with ⟨mz, p1, p2, p3, p4, p5, p6⟩ | ⟨g1, m1, p1, p3, p4, I1, z9, e56, p12, i', j0, j1, p15⟩
        · refine r_118_bad (d := e + 463) p2 ?_
          exact HF n1 mz p1 p2 p3 p4 p5 p6
        · have e60 : n1 428 60 = n 428 60 := p1 _ _ (by omega) (by omega) (by omega)
          refine ih (k + 1) g1 m1 n1 i' (by omega) (by omega) I1 p4 z9 (fun x x0 x1 x2 => ?_) j0 (by omega) (fun n' m' f1 f2 f3 f4 f5 f6 => HF n' m' (p1.tr f1) f2 (p3.tr f3) f4 f5 (fun X hX => p15 X (f6 X hX))) (fun g' n' m' f1 f3 f4 f5 f6 f7 f8 => HG g' n' m' (p1.tr f1) (p3.tr f3) f4 f5 f6 f7 (fun X hX => p15 X (f8 X hX)))
          rw [p1 _ _ (by omega) (by omega) (by omega)] at x2
          by_cases z : x = k
          · rw [z]; exact e56
          · have := hmin x x0 (by omega) x2
            rw [p12 x (by omega) (by omega) z (by omega)]
            exact this
      · rw [if_neg q2]
        refine skip (fun _ => ?_)
        rcases a7 with z | z | z
        · exact absurd z q2
        · obtain ⟨t, t0, t1, t2⟩ := i13.2.2.2 k (by omega) (by omega) z
          omega
        · exact z
/-- the loader begins -/
theorem l_I.of (h : e_ln g m n W L) (hb : e_xb m L) (hr : ∀ k, 0 ≤ k → k < 200 → n 455 k = -1 ∧ n 456 k = 0 ∧ n 457 k = 0) (h34 : n 428 34 = 0 ∧ n 428 67 = 0) : l_I g m n W L (m 359 6) ∧ m 394 9 = 0 ∧ ∀ x, 1 ≤ x → x < 0 → n 451 x ≠ 0 → n 456 x = 2 := by
  obtain ⟨⟨x1, x2, ⟨p, x3⟩, x4, x5, x6, x7, x8, x9, x10⟩, y1, y2, y3, y4, y5, y6, y7, y8⟩ := h
  obtain ⟨b1, b2, b3, b4⟩ := hb
  have bd := x1.1
  unfold s_bd at bd
  refine ⟨⟨x1, x2, ⟨x7.1, x7.2.1, b2, fun i q1 q2 => ?_⟩, ⟨x5, x6⟩, x7, x8, x9, x10, ⟨y2, y3, y4⟩, ⟨by rw [h34.1, h34.2], by rw [h34.1, b1], by rw [h34.1]; decide, fun i q1 q2 => by omega⟩, y8, fun k q1 q2 => ?_, ⟨by omega, fun i j q1 q2 q3 => by omega, fun i q1 q2 => by omega, fun k q1 q2 q3 => ?_⟩, ⟨by omega, Int.le_refl _, fun c q1 q2 => by omega⟩, fun z => by omega⟩, b3, fun x q1 q2 => by omega⟩
  · have v := x3.1.1.2.2.2.2.2.2.2.2.2 i q1 q2
    rw [x3.2, x4, Int.zero_add] at v
    exact v
  · obtain ⟨r1, r2, r3⟩ := hr k q1 q2
    obtain ⟨c1, c2, c3, c4, c5⟩ := b4 k q1 q2
    by_cases z : n 451 k = 0
    · refine Or.inl ⟨z, fun k0 => ?_, r2, r3, c1, c2⟩
      by_cases q : k < n 428 60
      · rcases y5 k k0 q with w | w
        · exact w.2
        · omega
      · exact y6 k (by omega) q2
    · have kr : 1 ≤ k ∧ k < n 428 60 := by
        have := y7 k q1 q2
        omega
      rcases y5 k kr.1 kr.2 with w | ⟨w0, w1, w2, w3, w4, w5, w6, w7⟩
      · exact absurd w.1 z
      · refine Or.inr ⟨kr, by omega, w3, w4, w6, ⟨w7, fun _ z => absurd r2 z⟩, Or.inl r2, fun _ => by omega, ?_, fun z => absurd r2 z, fun _ => ⟨c1, c2, r3⟩, fun z => by omega⟩
        rw [w5, if_neg (show ¬ (n 451 k = 2 ∧ n 456 k = 2) by omega)]
  · have := (hr k q1 q2).2.1
    omega
end SM2
