/-! ===== Store ===== -/
def c_kind (m : w_M) (n : Int) : Int := if 0 ≤ n ∧ n < m 359 6 ∧ n < 16564 then m 360 n else -1
def c_one (m : w_M) (n : Int) : Int := if 0 ≤ n ∧ n < m 359 6 ∧ n < 16564 then m 361 n else 0
def c_parts (m : w_M) (n : Int) : Int := if (0 ≤ n ∧ n < m 359 6 ∧ n < 16564) ∧ (m 360 n = 6 ∨ m 360 n = 7) then m 362 n else 0
theorem sp_kindOf {d : Nat} {l1 : Int} {m : w_M} {Q : Int → w_M → Prop} (h : Q (c_kind m l1) m) : xc_st_kindOf (d + 1) l1 m Q := by
  apply xr_st_kindOf
  unfold c_kind at h
  grind
theorem sp_oneOf {d : Nat} {l1 : Int} {m : w_M} {Q : Int → w_M → Prop} (h : Q (c_one m l1) m) : xc_st_oneOf (d + 1) l1 m Q := by
  apply xr_st_oneOf
  unfold c_one at h
  repeat' split
  all_goals simp_all
theorem sp_parts {d : Nat} {l1 : Int} {m : w_M} {Q : Int → w_M → Prop} (h : Q (c_parts m l1) m) : xc_st_parts (d + 1) l1 m Q := by
  apply xr_st_parts
  unfold c_parts at h
  grind
