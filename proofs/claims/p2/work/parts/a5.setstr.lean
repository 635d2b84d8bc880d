/-! ===== the loader: a stream's bytes are kept: the class ===== -/
def l_ks (m : w_M) (k R s : Int) : w_M := w_up (w_up (w_up (w_cpy m R 0 375 (m 366 10) s) 371 k (m 366 10)) 372 k s) 366 10 (m 366 10 + s)
section SR5
variable {d : Nat} {m m' : w_M} {Q : Int → w_M → Prop} {k R s : Int}
theorem sp_setStream (hu : l_us m k) (hs : m 366 11 ≤ 200) (hR : R = 387 ∨ R = 388) (h10 : 0 ≤ m 366 10 ∧ m 366 10 ≤ 40000) (hsz : 0 ≤ s ∧ s ≤ 8000) (HF : 40000 < m 366 10 + s → Q 0 m) (H1 : m 366 10 + s ≤ 40000 → Q 1 (l_ks m k R s)) : xc_ta_setStream (d + 2) k R s m Q := by
  have u1 := hu.1
  have u2 := hu.2.1
  have hl : w_ln R = 8000 ∧ w_isR R ∧ w_isA 1 R := by
    rcases hR with e | e
    · subst e; exact ⟨w_ln_eq s0_387, ⟨1, 8000, s0_387, by decide, by decide⟩, ⟨8000, s0_387⟩⟩
    · subst e; exact ⟨w_ln_eq s0_388, ⟨1, 8000, s0_388, by decide, by decide⟩, ⟨8000, s0_388⟩⟩
  have l375 : w_ln 375 = 40000 := w_ln_eq s0_375
  have e10 : (w_cpy m R 0 375 (m 366 10) s) 366 10 = m 366 10 := by
    unfold w_cpy
    rw [if_neg (by omega)]
  apply xr_ta_setStream
  refine sp_isFree_y (d := d) hu hs ?_
  rw [if_pos rfl, if_neg (by omega)]
  refine ⟨hl.2.1, ?_⟩
  rw [hl.1, if_neg (by omega), if_neg (by omega), w_32_id (x := m 366 10 + s) (by omega) (by omega)]
  by_cases q : 40000 < m 366 10 + s
  · rw [if_pos q]; exact HF q
  · rw [if_neg q]
    refine ⟨⟨hl.2.2, ⟨40000, s0_375⟩, by omega, w_EC (by decide), hsz.1, by decide, h10.1, by omega, by rw [l375]; omega⟩, by omega, by omega, ?_⟩
    exact H1 (by omega)
end SR5
