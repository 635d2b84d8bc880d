/-! ===== the rows of the constructor of the reference (by program) ===== -/
theorem ex_ck58_30 : ex_chkR ex_g0 ex_P0 "PaperHouseModel" "<init>" ex_m58.2.1 ex_m58.2.2.2.2 ex_z58 30 6 = true := by decide +kernel
theorem ex_ck58_36 : ex_chkR ex_g0 ex_P0 "PaperHouseModel" "<init>" ex_m58.2.1 ex_m58.2.2.2.2 ex_z58 36 6 = true := by decide +kernel
theorem ex_ck58_42 : ex_chkR ex_g0 ex_P0 "PaperHouseModel" "<init>" ex_m58.2.1 ex_m58.2.2.2.2 ex_z58 42 6 = true := by decide +kernel
theorem ex_ck58_48 : ex_chkR ex_g0 ex_P0 "PaperHouseModel" "<init>" ex_m58.2.1 ex_m58.2.2.2.2 ex_z58 48 4 = true := by decide +kernel
theorem ex_ck58_x : ex_chkM ex_g0 ex_P0 (ex_m58.1, ex_m58.2.1, ex_m58.2.2.1, ex_m58.2.2.2.1, []) [] 1018 9140 = true := by decide +kernel
theorem ex_ck58 : ex_okM ex_g0 ex_P0 ex_m58 := by
  obtain ⟨h1, h2, h3, h4, h5, -⟩ := ex_chkM_s ex_ck58_x
  refine ⟨h1, h2, h3, h4, h5, fun pc e he => ?_⟩
  have hl : pc / 16 < 52 := ex_cd_lt he
  by_cases q0 : pc / 16 < 6
  · exact ex_chkR_s ex_ck58_0 pc e (by omega) q0 he
  by_cases q1 : pc / 16 < 12
  · exact ex_chkR_s ex_ck58_6 pc e (by omega) q1 he
  by_cases q2 : pc / 16 < 18
  · exact ex_chkR_s ex_ck58_12 pc e (by omega) q2 he
  by_cases q3 : pc / 16 < 24
  · exact ex_chkR_s ex_ck58_18 pc e (by omega) q3 he
  by_cases q4 : pc / 16 < 30
  · exact ex_chkR_s ex_ck58_24 pc e (by omega) q4 he
  by_cases q5 : pc / 16 < 36
  · exact ex_chkR_s ex_ck58_30 pc e (by omega) q5 he
  by_cases q6 : pc / 16 < 42
  · exact ex_chkR_s ex_ck58_36 pc e (by omega) q6 he
  by_cases q7 : pc / 16 < 48
  · exact ex_chkR_s ex_ck58_42 pc e (by omega) q7 he
  exact ex_chkR_s ex_ck58_48 pc e (by omega) (by omega) he
