/-! ===== names and strings become nodes; tokens that are no object: the reference ===== -/
section MT
variable {d : Nat} {n : w_M} {D refs k : Int} {Q : Int → w_M → Prop}
theorem sp_m_beyond (h22 : n 428 22 = 11) (hQ : Q (-1) (m_fl n 5 (n 428 23))) : xc_m_object (d + 2) D refs n Q := by
  apply xr_m_object
  rw [if_pos h22]
  exact sp_m_fail (Q := fun _ m1 => Q (-1) m1) hQ
theorem sp_m_bad (h22 : n 428 22 = 0 ∨ n 428 22 = 10 ∨ n 428 22 = 7 ∨ n 428 22 = 9) (hQ : Q (-1) (m_fl n 4 (n 428 23))) : xc_m_object (d + 2) D refs n Q := by
  have key : xp_m_object_59 (d + 1) D refs 0 n Q := by
    apply xr_m_object_59
    rw [if_pos rfl]
    exact sp_m_fail (Q := fun _ m1 => Q (-1) m1) hQ
  apply xr_m_object
  rw [if_neg (by omega)]
  by_cases q0 : n 428 22 = 0
  · rw [if_pos q0]; exact key
  · rw [if_neg q0]
    by_cases q1 : n 428 22 = 10
    · rw [if_pos q1]; exact key
    · rw [if_neg q1]
      by_cases q2 : n 428 22 = 7
      · rw [if_pos q2]; exact key
      · rw [if_neg q2, if_pos (by omega)]
        exact key
theorem m_new_428 {a : Int} {b : Int} (hb : b ≠ 15) : m_new n k a 428 b = n 428 b := by
  unfold m_new
  rw [w_up_ne (by decide), w_up_ne (by decide), w_up_ne (by decide), w_up_ne (by decide), w_up_ne (by decide), w_up_ne (by decide), w_up_ne (by decide), w_up_ne (by decide), w_up_nb hb]
theorem sp_m_text (h22 : n 428 22 = k) (hk : k = 4 ∨ k = 5) (h27 : n 428 27 = 0) (h15 : 0 ≤ n 428 15 ∧ n 428 15 < 40000) (h29 : 0 ≤ n 428 29 ∧ n 428 29 ≤ 100000) (h31 : 0 ≤ n 428 31 ∧ n 428 31 ≤ 1000000000) (h26 : 0 ≤ n 428 26 ∧ n 428 26 ≤ 1000000) (h17 : 0 ≤ n 428 17 ∧ n 428 17 ≤ 1000000)
    (hf : m_cf n → Q (-1) (m_fl (m_ct n (n 428 26)) 5 (n 428 23)))
    (hg : ¬ m_cf n → Q (n 428 15) (w_up (w_up (w_up (m_new (m_ct n (n 428 26)) k 0) 436 (n 428 15) (n 428 17)) 435 (n 428 15) (n 428 26)) 428 17 (n 428 17 + n 428 26))) : xc_m_object (d + 4) D refs n Q := by
  have hcs : m_cs n = n 428 26 := by
    unfold m_cs
    rw [if_pos (by omega)]
  have ct : ∀ b : Int, b ≠ 29 → b ≠ 31 → m_ct n (n 428 26) 428 b = n 428 b := by
    intro b y1 y2
    unfold m_ct
    rw [w_up_nb y2, w_up_nb y1]
  have c15 := ct 15 (by decide) (by decide)
  have c17 := ct 17 (by decide) (by decide)
  have c22 := ct 22 (by decide) (by decide)
  have c26 := ct 26 (by decide) (by decide)
  have c27 := ct 27 (by decide) (by decide)
  have fin : ¬ m_cf n → xp_m_object_291 (d + 3) k (m_ct n (n 428 26)) Q := by
    intro z
    apply xr_m_object_291
    refine sp_newNode (d := d + 2) (by rw [c15]; exact h15) ?_
    rw [m_new_428 (by decide), m_new_428 (by decide), c15, c17, c26, w_32_id (by omega) (by omega)]
    exact ⟨h15, h15, hg z⟩
  apply xr_m_object
  rw [if_neg (by omega), if_neg (by omega), if_neg (by omega), if_neg (by omega), if_neg (by omega)]
  apply xr_m_object_59
  rw [if_neg (by decide), if_neg (by omega)]
  apply xr_m_object_113
  rw [if_neg (by omega), if_neg (by omega)]
  apply xr_m_object_148
  refine sp_counted (d := d + 1) (by omega) (by omega) (by omega) (fun z => ?_) (fun z => ?_)
  · rw [hcs]
    refine sp_m_good ?_
    have eg : f_m_good (m_fl (m_ct n (n 428 26)) 5 (n 428 23)) = 0 := by
      unfold f_m_good m_fl
      rw [c27, if_pos h27, w_up_nb (by decide), w_up_eq, if_neg (by decide)]
    rw [eg, if_pos rfl]
    exact hf z
  · rw [hcs]
    refine sp_m_good ?_
    have eg : f_m_good (m_ct n (n 428 26)) = 1 := by
      unfold f_m_good
      rw [c27, if_pos h27]
    rw [eg, if_neg (by decide), c22, if_neg (by omega), if_neg (by omega), if_neg (by omega)]
    rcases hk with rfl | rfl
    · rw [if_pos h22, if_pos h22]
      exact fin z
    · rw [if_neg (by omega), if_pos h22, if_neg (by omega)]
      exact fin z
end MT
