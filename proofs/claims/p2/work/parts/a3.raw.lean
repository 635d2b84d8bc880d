/-! ===== the loader: behind a stream's bytes: the reference ===== -/
section SR3
variable {d : Nat} {n n' n1 n2 : w_M} {Q : Int → w_M → Prop} {W : Int → Int} {L p k v x y P r s c : Int}
theorem r_202_bad (h : n 428 27 ≠ 0) (hk : 0 ≤ k ∧ k < 200) (hQ : ∀ n', l_rb n n' k → n' 428 27 ≠ 0 → Q 0 n') : xp_m_readAt_202 (d + 1) k P r s c n Q := by
  apply xr_m_readAt_202
  refine sp_m_good (d := d) ?_
  rw [show f_m_good n = 0 from if_neg h, if_pos rfl]
  refine ⟨hk, hQ _ (fun i j q1 q2 q3 => ?_) (by rw [w_up_ne (by decide)]; exact h)⟩
  unfold w_up
  rw [if_neg (by omega)]
theorem r_raw_bad (h : n 428 27 ≠ 0) (hk : 0 ≤ k ∧ k < 200) (hQ : ∀ n', l_rb n n' k → n' 428 27 ≠ 0 → Q 0 n') : l_raw (d + 1) k P r Q s n := by
  unfold l_raw
  refine sp_m_good (d := d) ?_
  rw [show f_m_good n = 0 from if_neg h, if_pos rfl]
  refine sp_m_good (d := d) ?_
  rw [show f_m_good n = 0 from if_neg h, if_pos rfl]
  exact r_202_bad (d := d) h hk hQ
theorem r_raw (hG : e_G n W L p) (h27 : n 428 27 = 0) (hk : 0 ≤ k ∧ k < 200) (hs : 0 ≤ s)
    (HE : t_is W L (e_kw W L p) e_endobj → ∀ n', m_ag n n' → xc_m_keepStream (d + 6) k r P s (n 428 79) n' (fun _ m2 => (0 ≤ k ∧ k < 200) ∧ Q 0 (w_up m2 456 k (w_8 2))))
    (HF : ¬ t_is W L (e_kw W L p) e_endobj → ∀ n', l_rb n n' k → n' 428 27 ≠ 0 → Q 0 n') : l_raw (d + 6) k P r Q s n := by
  have p0 := hG.1.2.2.2.1
  have pL := hG.1.2.2.2.2
  have k1 := e_kw_r (W := W) p0 pL
  unfold l_raw
  refine sp_m_good (d := d + 5) ?_
  rw [show f_m_good n = 1 from if_pos h27, if_neg (by decide)]
  refine r_tok (d := d + 1) hG (fun n1 t1 tk => ?_)
  have v1 : v_m n1 W L := hG.1.1.fr hG.2.1 t1.fr
  have z27 : n1 428 27 = 0 := by rw [t1 _ _ (by omega) (by omega)]; exact h27
  have rb : l_rb n n1 k := fun i j q1 q2 q3 => t1 i j (by omega) q2
  refine sp_m_good (d := d + 5) ?_
  rw [show f_m_good n1 = 1 from if_pos z27, if_neg (by decide)]
  refine r_isW (d := d + 1) tk v1 t_mendobj (by decide) (by decide) (by omega) (fun w _ => ?_) (fun w => ?_)
  · rw [if_neg (by decide)]
    apply xr_m_readAt_202
    refine sp_m_good (d := d + 5) ?_
    rw [show f_m_good n1 = 1 from if_pos z27, if_neg (by decide), if_neg (by omega)]
    exact HE w n1 t1
  · rw [if_pos rfl]
    refine sp_m_fail ?_
    refine r_202_bad (d := d + 5) (m_fl_ne z27 (by decide)) hk (fun n' f z => HF w n' (fun i j q1 q2 q3 => ?_) z)
    have e17 : (m_fl n1 6 P) 428 17 = n 428 17 := by rw [m_fl_o (by omega), t1 _ _ (by omega) (by omega)]
    rw [f i j q1 (by rw [e17]; exact q2) q3, m_fl_o (by omega)]
    exact rb i j q1 q2 q3
end SR3
