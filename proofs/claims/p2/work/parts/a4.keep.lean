/-! ===== the loader: a stream's bytes are kept: the reference ===== -/
def l_kp (n : w_M) (k s : Int) : w_M := w_up (w_up (w_up (w_up (w_up n 457 k 1) 458 k (n 428 34)) 459 k s) 428 34 (n 428 34 + s)) 428 67 (n 428 67 + s)
def l_kf (n n' : w_M) : Prop := ∀ i j : Int, ¬ (i = 428 ∧ ((27 ≤ j ∧ j ≤ 28) ∨ (37 ≤ j ∧ j ≤ 40))) → ¬ (442 ≤ i ∧ i ≤ 450) → ¬ (i = 441 ∧ n 428 34 ≤ j) → n' i j = n i j
section SR4
variable {d : Nat} {g : s_g} {m n n' n1 n2 : w_M} {Q : Int → w_M → Prop} {I : Int → Int} {b f p fr N ww k s : Int}
theorem r_keep_bad (h : n 428 27 ≠ 0) (hQ : Q 0 n) : xp_m_keepStream_38 (d + 1) k s n Q := by
  apply xr_m_keepStream_38
  refine sp_m_good (d := d) ?_
  rw [show f_m_good n = 0 from if_neg h, if_pos rfl]
  exact hQ
theorem r_keepStream (h : s_st g m n) (hb : 0 ≤ b ∧ b < n 428 15) (h7 : n 432 b = 7) (hf : f = s_fd n (s_wd 21) (g.2.1 b)) (hp : p = s_fd n (s_wd 22) (g.2.1 b)) (hfr : 0 ≤ fr ∧ 0 ≤ N ∧ fr + N ≤ 8000) (hI : ∀ i, 0 ≤ i → i < N → n 430 (fr + i) % 256 = I i) (h67 : n 428 67 = n 428 34 ∧ 0 ≤ n 428 34 ∧ n 428 34 ≤ 40000) (h27 : n 428 27 = 0) (hk : 0 ≤ k ∧ k < 200)
    (HF : (¬ z_ok g n f p ∨ z_run (z_do g n p 0 (z_ns g n f)) I N = none ∨ ∃ o, z_run (z_do g n p 0 (z_ns g n f)) I N = some o ∧ 40000 < n 428 34 + o.length) → ∀ n', l_kf n n' → n' 428 27 ≠ 0 → Q 0 n')
    (H0 : ∀ o, z_ok g n f p → z_run (z_do g n p 0 (z_ns g n f)) I N = some o → n 428 34 + o.length ≤ 40000 → ∀ n2, z_mg n n2 → (∀ j : Nat, j < o.length → n2 441 (n 428 34 + j) = o.getD j 0) → y_by o → (o.length : Int) ≤ 8000 → Q 0 (l_kp n2 k o.length)) : xc_m_keepStream (d + 13) k b ww fr N n Q := by
  have kf : ∀ {n2 : w_M} {c v : Int}, z_mf n n2 → l_kf n (m_fl n2 c v) := fun f i j q1 q2 q3 => (m_fl_o (by omega)).trans (f i j (by omega) q2)
  have z27 : ∀ {n2 : w_M}, z_mf n n2 → n2 428 27 = 0 := fun f => by rw [f _ _ (by omega) (by omega)]; exact h27
  have bad : ∀ {n2 : w_M} {c v : Int}, c ≠ 0 → z_mf n n2 → (¬ z_ok g n f p ∨ z_run (z_do g n p 0 (z_ns g n f)) I N = none ∨ ∃ o, z_run (z_do g n p 0 (z_ns g n f)) I N = some o ∧ 40000 < n 428 34 + o.length) → ∀ r : Int, xc_m_good (d + 12) (m_fl n2 c v) (fun r2 m2 => if r2 = 0 then (xp_m_keepStream_38 (d + 12) k r m2 Q) else (if 40000 < (w_32 ((m2 428 67) + r)) then (xc_m_fail (d + 12) 8 ww m2 (fun _ m3 => xp_m_keepStream_38 (d + 12) k r m3 Q)) else (xp_m_keepStream_38 (d + 12) k r m2 Q))) := by
    intro n2 c v hc f2 z r
    have ne := m_fl_ne (v := v) (z27 f2) hc
    refine sp_m_good (d := d + 11) ?_
    rw [show f_m_good (m_fl n2 c v) = 0 from if_neg ne, if_pos rfl]
    exact r_keep_bad (d := d + 11) ne (HF z _ (kf f2) ne)
  apply xr_m_keepStream
  refine r_decode (d := d) (I := I) h hb h7 hf hp hfr hI ⟨h67.2.1, by omega⟩ h27 (fun z r n2 f2 => bad (by decide) f2 (Or.inl z) r) (fun _ z r n2 f2 => bad (by decide) f2 (Or.inr (Or.inl z)) r) (fun o zo z n2 f2 a2 y2 l2 => ?_)
  have y27 : n2 428 27 = 0 := by rw [f2 _ _ (by omega) (by omega) (by omega)]; exact h27
  have e67 : n2 428 67 = n 428 67 := f2 _ _ (by omega) (by omega) (by omega)
  have e34 : n2 428 34 = n 428 34 := f2 _ _ (by omega) (by omega) (by omega)
  refine sp_m_good (d := d + 11) ?_
  rw [show f_m_good n2 = 1 from if_pos y27, if_neg (by decide)]
  have H0 := H0 o zo z
  have HF := HF
  obtain ⟨K, hK⟩ : ∃ K : Int, K = o.length := ⟨_, rfl⟩
  rw [← hK] at H0 l2 ⊢
  have K0 : 0 ≤ K := by omega
  rw [w_32_id (x := n2 428 67 + K) (by omega) (by omega)]
  by_cases q : 40000 < n2 428 67 + K
  · rw [if_pos q]
    refine sp_m_fail ?_
    have ne := m_fl_ne (c := 8) (v := ww) y27 (by decide)
    exact r_keep_bad (d := d + 11) ne (HF (Or.inr (Or.inr ⟨o, z, by omega⟩)) _ (fun i j q1 q2 q3 => (m_fl_o (by omega)).trans (f2 i j (by omega) q2 q3)) ne)
  · rw [if_neg q]
    apply xr_m_keepStream_38
    refine sp_m_good (d := d + 11) ?_
    rw [show f_m_good n2 = 1 from if_pos y27, if_neg (by decide), w_32_id (x := n2 428 34 + K) (by omega) (by omega), w_32_id (x := n2 428 67 + K) (by omega) (by omega)]
    exact ⟨hk, hk, hk, H0 (by omega) n2 f2 a2 y2 l2⟩
end SR4
