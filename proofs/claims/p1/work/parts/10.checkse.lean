/-! ===== the rows of the constructor of the reference (by program) ===== -/
theorem ex_ck58_30 : ex_chkR ex_g0 ex_P0 "PaperHouseModel" "<init>" ex_m58.2.1 ex_m58.2.2.2.2 ex_z58 30 5 = true := by decide +kernel
theorem ex_ck58_35 : ex_chkR ex_g0 ex_P0 "PaperHouseModel" "<init>" ex_m58.2.1 ex_m58.2.2.2.2 ex_z58 35 5 = true := by decide +kernel
theorem ex_ck58_40 : ex_chkR ex_g0 ex_P0 "PaperHouseModel" "<init>" ex_m58.2.1 ex_m58.2.2.2.2 ex_z58 40 5 = true := by decide +kernel
theorem ex_ck58_45 : ex_chkR ex_g0 ex_P0 "PaperHouseModel" "<init>" ex_m58.2.1 ex_m58.2.2.2.2 ex_z58 45 5 = true := by decide +kernel
theorem ex_ck58_50 : ex_chkR ex_g0 ex_P0 "PaperHouseModel" "<init>" ex_m58.2.1 ex_m58.2.2.2.2 ex_z58 50 2 = true := by decide +kernel
theorem ex_ck58_x : ex_chkM ex_g0 ex_P0 (ex_m58.1, ex_m58.2.1, ex_m58.2.2.1, ex_m58.2.2.2.1, []) [] 1018 = true := by decide +kernel
theorem ex_ck58 : ex_okM ex_g0 ex_P0 ex_m58 := by
  obtain ⟨h1, h2, h3, h4, h5, -⟩ := ex_chkM_s (M := (ex_m58.1, ex_m58.2.1, ex_m58.2.2.1, ex_m58.2.2.2.1, [])) (ex_cw 9 140 rfl rfl) ex_ck58_x
  refine ⟨h1, h2, h3, h4, h5, fun pc e he => ?_⟩
  have hl : pc / 16 < 52 := ex_cd_lt he
  by_cases q0 : pc / 16 < 5
  · exact ex_chkR_s ex_ck58_0 pc e (by omega) q0 he
  by_cases q1 : pc / 16 < 10
  · exact ex_chkR_s ex_ck58_5 pc e (by omega) q1 he
  by_cases q2 : pc / 16 < 15
  · exact ex_chkR_s ex_ck58_10 pc e (by omega) q2 he
  by_cases q3 : pc / 16 < 20
  · exact ex_chkR_s ex_ck58_15 pc e (by omega) q3 he
  by_cases q4 : pc / 16 < 25
  · exact ex_chkR_s ex_ck58_20 pc e (by omega) q4 he
  by_cases q5 : pc / 16 < 30
  · exact ex_chkR_s ex_ck58_25 pc e (by omega) q5 he
  by_cases q6 : pc / 16 < 35
  · exact ex_chkR_s ex_ck58_30 pc e (by omega) q6 he
  by_cases q7 : pc / 16 < 40
  · exact ex_chkR_s ex_ck58_35 pc e (by omega) q7 he
  by_cases q8 : pc / 16 < 45
  · exact ex_chkR_s ex_ck58_40 pc e (by omega) q8 he
  by_cases q9 : pc / 16 < 50
  · exact ex_chkR_s ex_ck58_45 pc e (by omega) q9 he
  exact ex_chkR_s ex_ck58_50 pc e (by omega) (by omega) he
