/-! ===== the loader: behind an object: the reference ===== -/
/-- what readAt does behind a stream's bytes -/
abbrev l_raw (d : Nat) (k P r5 : Int) (Q : Int → w_M → Prop) (r12 : Int) (m12 : w_M) : Prop := xc_m_good d m12 (fun r13 m13 => if r13 = 0 then (xc_m_good d m13 (fun r14 m14 => if r14 = 0 then (xp_m_readAt_202 d k P r5 r12 (m12 428 79) m14 Q) else (xc_m_isWord d 274 m14 (fun r15 m15 => if r15 = 0 then (xc_m_fail d 6 P m15 (fun r16 m16 => xp_m_readAt_202 d k P r5 r12 (m12 428 79) m16 Q)) else (xp_m_readAt_202 d k P r5 r12 (m12 428 79) m15 Q))))) else (xc_m_token d m13 (fun r17 m17 => xc_m_good d m17 (fun r18 m18 => if r18 = 0 then (xp_m_readAt_202 d k P r5 r12 (m12 428 79) m18 Q) else (xc_m_isWord d 274 m18 (fun r19 m19 => if r19 = 0 then (xc_m_fail d 6 P m19 (fun r20 m20 => xp_m_readAt_202 d k P r5 r12 (m12 428 79) m20 Q)) else (xp_m_readAt_202 d k P r5 r12 (m12 428 79) m19 Q)))))))
/-- what is told behind an object -/
def l_rb (n n' : w_M) (k : Int) : Prop := ∀ i j : Int, ¬ (i = 428 ∧ 21 ≤ j ∧ j ≤ 28) → ¬ (i = 440 ∧ n 428 17 ≤ j ∧ j < 140000) → ¬ ((i = 455 ∨ i = 456) ∧ j = k) → n' i j = n i j
section SQ2
variable {d : Nat} {n n' n1 n2 : w_M} {Q : Int → w_M → Prop} {W : Int → Int} {L p k v x y P r : Int}
theorem r_rest (hG : e_G n W L p) (h27 : n 428 27 = 0) (hk : 0 ≤ k ∧ k < 200) (hr : 0 ≤ r ∧ r < 40000)
    (HS : n 432 r = 7 → t_is W L (e_kw W L p) e_stream → ∀ n', l_rb n n' k → n' 428 27 = 0 → n' 455 k = r → n' 456 k = n 456 k → v_m n' W L → n' 428 21 = e_kw W L p + 6 → xc_m_rawStream (d + 6) r P n' (l_raw (d + 6) k P r Q))
    (HE : ¬ (n 432 r = 7 ∧ t_is W L (e_kw W L p) e_stream) → t_is W L (e_kw W L p) e_endobj → ∀ n', l_rb n n' k → n' 428 27 = 0 → n' 455 k = r → n' 456 k = 2 → Q 0 n')
    (HF : ¬ (n 432 r = 7 ∧ t_is W L (e_kw W L p) e_stream) → ¬ t_is W L (e_kw W L p) e_endobj → ∀ n', l_rb n n' k → n' 428 27 ≠ 0 → Q 0 n') : l_rest (d + 6) k P Q r n := by
  have p0 := hG.1.2.2.2.1
  have pL := hG.1.2.2.2.2
  have k1 := e_kw_r (W := W) p0 pL
  unfold l_rest
  refine sp_m_good (d := d + 5) ?_
  rw [show f_m_good n = 1 from if_pos h27, if_neg (by decide)]
  refine ⟨hk, ?_⟩
  obtain ⟨n0, hn0⟩ : ∃ n0, n0 = w_up n 455 k r := ⟨_, rfl⟩
  rw [← hn0]
  have f0 : ∀ i j : Int, ¬ (i = 455 ∧ j = k) → n0 i j = n i j := fun i j q => by
    rw [hn0]
    unfold w_up
    rw [if_neg q]
  have e55 : n0 455 k = r := by rw [hn0, w_up_eq]
  have G0 : e_G n0 W L p := by
    obtain ⟨⟨h1, h2, h3, h4⟩, h5, h6, h7⟩ := hG
    have ne : n 428 18 ≠ 455 := fun e => by
      obtain ⟨N, hN⟩ := h1.2.2.1
      rw [e] at hN
      have := hN.symm.trans s0_455
      cases this
    have vm : v_m n0 W L := by
      obtain ⟨a1, a2, a3, a4, a5, a6, a7, a8⟩ := h1
      have g18 := f0 428 18 (by omega)
      have g19 := f0 428 19 (by omega)
      refine ⟨a1, by rw [g18]; exact a2, by rw [g18]; exact a3, by rw [g19]; exact a4, by rw [f0 _ _ (by omega)]; exact a5, by rw [g18, g19]; exact a6, by rw [g18]; exact a7, fun i i0 i1 => ?_⟩
      rw [g18, g19, f0 _ _ (fun z => ne z.1)]
      exact a8 i i0 i1
    refine ⟨⟨vm, h2, by rw [f0 _ _ (by omega)]; exact h3, h4⟩, by rw [f0 _ _ (by omega)]; exact h5, by rw [f0 _ _ (by omega)]; exact h6, by rw [f0 _ _ (by omega)]; exact h7⟩
  refine r_tok (d := d + 1) G0 (fun n1 t1 tk => ?_)
  have v1 : v_m n1 W L := G0.1.1.fr G0.2.1 t1.fr
  have e17 : n0 428 17 = n 428 17 := f0 _ _ (by omega)
  have rb : l_rb n n1 k := fun i j q1 q2 q3 => by rw [t1 i j (by omega) (by rw [e17]; exact q2)]; exact f0 i j (by omega)
  have z27 : n1 428 27 = 0 := by rw [t1 _ _ (by omega) (by omega), f0 _ _ (by omega)]; exact h27
  have z55 : n1 455 k = r := by rw [t1 _ _ (by omega) (by omega)]; exact e55
  have z56 : n1 456 k = n 456 k := by rw [t1 _ _ (by omega) (by omega)]; exact f0 _ _ (by omega)
  have z32 : n1 432 r = n 432 r := by rw [t1 _ _ (by omega) (by omega)]; exact f0 _ _ (by omega)
  have done : t_is W L (e_kw W L p) e_endobj → ¬ (n 432 r = 7 ∧ t_is W L (e_kw W L p) e_stream) → xp_m_readAt_202 (d + 6) k P r (-1) (-1) n1 Q := by
    intro w z
    apply xr_m_readAt_202
    refine sp_m_good (d := d + 5) ?_
    rw [show f_m_good n1 = 1 from if_pos z27, if_neg (by decide), if_pos (by decide), w_8_id (x := 2) (by decide) (by decide)]
    refine ⟨hk, HE z w _ (fun i j q1 q2 q3 => ?_) (by rw [w_up_ne (by decide)]; exact z27) (by rw [w_up_ne (by decide)]; exact z55) (by rw [w_up_eq])⟩
    unfold w_up
    rw [if_neg (by omega)]
    exact rb i j q1 q2 q3
  have bad : ¬ t_is W L (e_kw W L p) e_endobj → ¬ (n 432 r = 7 ∧ t_is W L (e_kw W L p) e_stream) → ∀ c v, c ≠ 0 → xp_m_readAt_202 (d + 6) k P r (-1) (-1) (m_fl n1 c v) Q := by
    intro w z c v hc
    have ne := m_fl_ne (v := v) z27 hc
    apply xr_m_readAt_202
    refine sp_m_good (d := d + 5) ?_
    rw [show f_m_good (m_fl n1 c v) = 0 from if_neg ne, if_pos rfl]
    refine ⟨hk, HF z w _ (fun i j q1 q2 q3 => ?_) (by rw [w_up_ne (by decide)]; exact ne)⟩
    unfold w_up
    rw [if_neg (by omega), m_fl_o (by omega)]
    exact rb i j q1 q2 q3
  have fin : ¬ (n 432 r = 7 ∧ t_is W L (e_kw W L p) e_stream) → xc_m_good (d + 6) n1 (fun r9 m9 => if r9 = 0 then (xp_m_readAt_202 (d + 6) k P r (-1) (-1) m9 Q) else (xc_m_isWord (d + 6) 274 m9 (fun r10 m10 => if r10 = 0 then (xc_m_fail (d + 6) 6 P m10 (fun _ m11 => xp_m_readAt_202 (d + 6) k P r (-1) (-1) m11 Q)) else (xp_m_readAt_202 (d + 6) k P r (-1) (-1) m10 Q)))) := by
    intro z
    refine sp_m_good (d := d + 5) ?_
    rw [show f_m_good n1 = 1 from if_pos z27, if_neg (by decide)]
    refine r_isW (d := d + 1) tk v1 t_mendobj (by decide) (by decide) (by omega) (fun w _ => ?_) (fun w => ?_)
    · rw [if_neg (by decide)]; exact done w z
    · rw [if_pos rfl]
      exact sp_m_fail (bad w z 6 P (by decide))
  refine ⟨hr, ?_⟩
  rw [z32]
  by_cases q : n 432 r = 7
  · rw [if_pos q]
    refine r_isW (d := d + 1) tk v1 t_mstream (by decide) (by decide) (by omega) (fun w w21 => ?_) (fun w => ?_)
    · rw [if_neg (by decide)]
      exact HS q w n1 rb z27 z55 z56 v1 w21
    · rw [if_pos rfl]
      exact fin (fun z => w z.2)
  · rw [if_neg q]
    exact fin (fun z => q z.1)
end SQ2
