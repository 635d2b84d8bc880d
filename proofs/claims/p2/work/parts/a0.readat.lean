/-! ===== the loader: an object's head at its place: the reference ===== -/
/-- what readAt does behind the object -/
abbrev l_rest (d : Nat) (k P : Int) (Q : Int → w_M → Prop) (r5 : Int) (m5 : w_M) : Prop := (xc_m_good d m5 (fun r6 m6 => if r6 = 0 then (Q 0 m6) else ((0 ≤ k ∧ k < 200) ∧ (xc_m_token d (w_up m6 455 k r5) (fun r7 m7 => (0 ≤ r5 ∧ r5 < 40000) ∧ (if (m7 432 r5) = 7 then (xc_m_isWord d 272 m7 (fun r8 m8 => if r8 = 0 then (xc_m_good d m8 (fun r9 m9 => if r9 = 0 then (xp_m_readAt_202 d k P r5 (-1) (-1) m9 Q) else (xc_m_isWord d 274 m9 (fun r10 m10 => if r10 = 0 then (xc_m_fail d 6 P m10 (fun r11 m11 => xp_m_readAt_202 d k P r5 (-1) (-1) m11 Q)) else (xp_m_readAt_202 d k P r5 (-1) (-1) m10 Q))))) else (xc_m_rawStream d r5 P m8 (fun r12 m12 => xc_m_good d m12 (fun r13 m13 => if r13 = 0 then (xc_m_good d m13 (fun r14 m14 => if r14 = 0 then (xp_m_readAt_202 d k P r5 r12 (m12 428 79) m14 Q) else (xc_m_isWord d 274 m14 (fun r15 m15 => if r15 = 0 then (xc_m_fail d 6 P m15 (fun r16 m16 => xp_m_readAt_202 d k P r5 r12 (m12 428 79) m16 Q)) else (xp_m_readAt_202 d k P r5 r12 (m12 428 79) m15 Q))))) else (xc_m_token d m13 (fun r17 m17 => xc_m_good d m17 (fun r18 m18 => if r18 = 0 then (xp_m_readAt_202 d k P r5 r12 (m12 428 79) m18 Q) else (xc_m_isWord d 274 m18 (fun r19 m19 => if r19 = 0 then (xc_m_fail d 6 P m19 (fun r20 m20 => xp_m_readAt_202 d k P r5 r12 (m12 428 79) m20 Q)) else (xp_m_readAt_202 d k P r5 r12 (m12 428 79) m19 Q))))))))))) else (xc_m_good d m7 (fun r21 m21 => if r21 = 0 then (xp_m_readAt_202 d k P r5 (-1) (-1) m21 Q) else (xc_m_isWord d 274 m21 (fun r22 m22 => if r22 = 0 then (xc_m_fail d 6 P m22 (fun r23 m23 => xp_m_readAt_202 d k P r5 (-1) (-1) m23 Q)) else (xp_m_readAt_202 d k P r5 (-1) (-1) m22 Q)))))))))))
/-- what the head changes -/
def l_rh (n n' : w_M) (k : Int) : Prop := ∀ i j : Int, ¬ (i = 428 ∧ (18 ≤ j ∧ j ≤ 28 ∨ j = 77 ∨ j = 78)) → ¬ (i = 440 ∧ n 428 17 ≤ j ∧ j < 140000) → ¬ (i = 456 ∧ j = k) → n' i j = n i j
section SP
variable {d : Nat} {n n' n1 n2 : w_M} {Q : Int → w_M → Prop} {W : Int → Int} {L p k v x y P : Int}
theorem r_readAt (hF : e_F n W L) (h27 : n 428 27 = 0) (hk : 0 ≤ k ∧ k < 200) (h17 : 0 ≤ n 428 17 ∧ n 428 17 + L ≤ 140000) (h52 : 0 ≤ n 452 k)
    (H1 : n 452 k < L → e_hd W L (n 452 k) → e_un W L (e_p1 W L (n 452 k)) = k → e_un W L (e_p2 W L (n 452 k)) = n 453 k → ∀ n', l_rh n n' k → n' 456 k = 1 → n' 428 27 = 0 → e_G n' W L (e_p3 W L (n 452 k) + 3) → xc_m_token (d + 6) n' (fun _ m4 => xc_m_object (d + 6) 0 1 m4 (l_rest (d + 6) k (n 452 k) Q)))
    (H0 : ¬ (n 452 k < L ∧ e_hd W L (n 452 k) ∧ e_un W L (e_p1 W L (n 452 k)) = k ∧ e_un W L (e_p2 W L (n 452 k)) = n 453 k) → ∀ n', l_rh n n' k → n' 428 27 ≠ 0 → Q 0 n') : xc_m_readAt (d + 7) k n Q := by
  have L8 := hF.2.1
  have flr : ∀ {n1 : w_M} {c v : Int}, l_rh n n1 k → l_rh n (m_fl n1 c v) k := fun f i j q1 q2 q3 => (m_fl_o (by omega)).trans (f i j q1 q2 q3)
  apply xr_m_readAt
  rw [hF.2.2.1]
  refine ⟨hk, ?_⟩
  by_cases q : n 452 k < L
  · rw [if_pos q, w_32_id (x := n 452 k) (by omega) (by omega), w_8_id (x := 1) (by decide) (by decide)]
    refine ⟨hk, hk, ?_⟩
    apply xr_m_from
    obtain ⟨n1, hn1⟩ : ∃ n1, n1 = w_up (w_up (w_up (w_up (w_up (w_up n 456 k 1) 428 18 430) 428 19 0) 428 20 L) 428 21 0) 428 21 (n 452 k) := ⟨_, rfl⟩
    rw [← hn1]
    have f1 : ∀ i j : Int, ¬ (i = 428 ∧ (18 ≤ j ∧ j ≤ 21)) → ¬ (i = 456 ∧ j = k) → n1 i j = n i j := fun i j q1 q2 => by
      rw [hn1]
      unfold w_up
      rw [if_neg (by omega), if_neg (by omega), if_neg (by omega), if_neg (by omega), if_neg (by omega), if_neg (by omega)]
    have a18 : n1 428 18 = 430 := by rw [hn1, w_up_nb (by decide), w_up_nb (by decide), w_up_nb (by decide), w_up_nb (by decide), w_up_eq]
    have a19 : n1 428 19 = 0 := by rw [hn1, w_up_nb (by decide), w_up_nb (by decide), w_up_nb (by decide), w_up_eq]
    have a20 : n1 428 20 = L := by rw [hn1, w_up_nb (by decide), w_up_nb (by decide), w_up_eq]
    have a21 : n1 428 21 = n 452 k := by rw [hn1, w_up_eq]
    have a56 : n1 456 k = 1 := by rw [hn1, w_up_ne (by decide), w_up_ne (by decide), w_up_ne (by decide), w_up_ne (by decide), w_up_ne (by decide), w_up_eq]
    have l430 : w_ln 430 = 8000 := w_ln_eq s0_430
    have hG : e_G n1 W L (n 452 k) := by
      refine ⟨⟨⟨hF.1, by rw [a18]; decide, by rw [a18]; exact ⟨8000, s0_430⟩, by rw [a19]; decide, a20, by rw [a18, a19, l430]; omega, by rw [a18, l430]; decide, fun i i0 i1 => ?_⟩, by omega, a21, h52, by omega⟩, Or.inl a18, by rw [f1 _ _ (by omega) (by omega)]; exact h17.1, by rw [f1 _ _ (by omega) (by omega)]; omega⟩
      rw [a18, a19, Int.zero_add, f1 _ _ (by omega) (by omega)]
      exact hF.2.2.2 i i0 i1
    have e17 : n1 428 17 = n 428 17 := f1 _ _ (by omega) (by omega)
    have rh : ∀ {n2 : w_M}, e_ma n1 n2 → l_rh n n2 k := fun f i j q1 q2 q3 => by rw [f i j (by omega) (by rw [e17]; omega)]; exact f1 i j (by omega) q3
    have z27 : ∀ {n2 : w_M}, e_ma n1 n2 → n2 428 27 = 0 := fun f => by rw [f _ _ (by omega) (by omega), f1 _ _ (by omega) (by omega)]; exact h27
    refine r_header (d := d) hG (fun hd n2 f2 G2 e77 e78 => ?_) (fun hd n2 f2 => ?_)
    · rw [if_neg (by decide), e77]
      by_cases q1 : e_un W L (e_p1 W L (n 452 k)) = k
      · rw [if_pos q1, e78, f2 453 k (by omega) (by omega), f1 453 k (by omega) (by omega)]
        refine ⟨hk, ?_⟩
        by_cases q2 : e_un W L (e_p2 W L (n 452 k)) = n 453 k
        · rw [if_pos q2]
          exact H1 q hd q1 q2 n2 (rh f2) (by rw [f2 _ _ (by omega) (by omega)]; exact a56) (z27 f2) G2
        · rw [if_neg q2]
          refine sp_m_fail ?_
          exact H0 (fun z => q2 z.2.2.2) _ (flr (rh f2)) (m_fl_ne (z27 f2) (by decide))
      · rw [if_neg q1]
        refine sp_m_fail ?_
        exact H0 (fun z => q1 z.2.2.1) _ (flr (rh f2)) (m_fl_ne (z27 f2) (by decide))
    · rw [if_pos rfl]
      refine sp_m_fail ?_
      exact H0 (fun z => hd z.2.1) _ (flr (rh f2)) (m_fl_ne (z27 f2) (by decide))
  · rw [if_neg q]
    refine sp_m_fail ?_
    exact H0 (fun z => q z.1) _ (flr (fun _ _ _ _ _ => rfl)) (m_fl_ne h27 (by decide))
end SP
