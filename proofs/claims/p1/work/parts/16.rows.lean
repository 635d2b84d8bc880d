/-! ===== the rows of the law hold (by program) ===== -/
def ex_zlaw : List (Nat × List Nat) := [(0, [1022, 1023, 1001]), (4, [1024, 1025]), (8, [9136, 9137, 1018]), (12, [9138, 9139]), (190, [3219, 3220, 3221]), (219, [11081, 11082, 11083]), (233, [3227, 3228, 3229]), (242, [11089, 11090, 11091]), (251, [3231, 3232, 3233]), (255, [11093, 11094, 11095]), (269, [6200, 6201, 6202]), (278, [13045, 13046, 13047]), (287, [6204, 6205, 6206]), (291, [13049, 13050, 13051]), (305, [6209, 6210, 6211]), (314, [13053, 13054, 13055]), (328, [6228, 6229, 6230]), (337, [13065, 13066, 13067]), (346, [6233, 6234, 6235]), (350, [13069, 13070, 13071]), (364, [6237, 6238, 6239]), (373, [13073, 13074, 13075]), (400, [7010, 7011, 7012]), (422, [13077, 13078, 13079]), (436, [7015, 7016, 7017]), (445, [13081, 13082, 13083]), (464, [7020, 7021, 7022]), (478, [13085, 13086, 13087]), (492, [7028, 7029, 7030]), (501, [13089, 13090, 13091]), (510, [7044, 7045, 7046]), (514, [13093, 13094, 13095]), (533, [7048, 7049, 7050]), (547, [13097, 13098, 13099]), (561, [7072, 7073, 7074]), (570, [13110, 13111, 13112]), (589, [7219, 7220, 7221]), (603, [14025, 14026, 14027]), (627, [7227, 7228, 7229]), (646, [14029, 14030, 14031]), (660, [8072, 8073, 8074]), (669, [14081, 14082, 14083]), (688, [8089, 8090, 8091]), (702, [14089, 14090, 14091]), (721, [8102, 8103, 8104]), (735, [14097, 14098, 14099]), (749, [8110, 8111, 8112]), (758, [14101, 14102, 14103]), (772, [8123, 8124, 8125]), (781, [14105, 14106, 14107]), (790, [8136, 8137, 8138]), (794, [14114, 14115, 14116]), (803, [9075, 9076, 9077]), (807, [14229, 14230, 14231]), (816, [9118, 9119, 9120]), (820, [15023, 15024, 15025]), (834, [9122, 9123, 9124]), (843, [15027, 15028, 15029]), (852, [9127, 9128, 9129]), (856, [15031, 15032, 15033]), (865, [9132, 9133, 9134]), (869, [15035, 15036, 15037])]
theorem ex_ckL_0 : ex_chkR ex_g0 ex_P0 "PaperHouseLaw" "law" code ex_lawcd ex_zlaw 0 8 = true := by decide +kernel
theorem ex_ckL_8 : ex_chkR ex_g0 ex_P0 "PaperHouseLaw" "law" code ex_lawcd ex_zlaw 8 8 = true := by decide +kernel
theorem ex_ckL_16 : ex_chkR ex_g0 ex_P0 "PaperHouseLaw" "law" code ex_lawcd ex_zlaw 16 8 = true := by decide +kernel
theorem ex_ckL_24 : ex_chkR ex_g0 ex_P0 "PaperHouseLaw" "law" code ex_lawcd ex_zlaw 24 8 = true := by decide +kernel
theorem ex_ckL_32 : ex_chkR ex_g0 ex_P0 "PaperHouseLaw" "law" code ex_lawcd ex_zlaw 32 8 = true := by decide +kernel
theorem ex_ckL_40 : ex_chkR ex_g0 ex_P0 "PaperHouseLaw" "law" code ex_lawcd ex_zlaw 40 8 = true := by decide +kernel
theorem ex_ckL_48 : ex_chkR ex_g0 ex_P0 "PaperHouseLaw" "law" code ex_lawcd ex_zlaw 48 8 = true := by decide +kernel
theorem ex_lawrows (L : Nat) (xs : Nat → Int32) : ∀ (pc : Nat) (e : ex_I), ex_cd ex_lawcd pc = some e → ex_dec code pc e ∧ ex_lk (ex_g L xs) ex_P0 "PaperHouseLaw" "law" pc e := by
  intro pc e he
  have hl : pc / 16 < 56 := ex_cd_lt he
  have h : ex_dec code pc e ∧ ex_lk ex_g0 ex_P0 "PaperHouseLaw" "law" pc e := by
    by_cases q0 : pc / 16 < 8
    · exact ex_chkR_s ex_ckL_0 pc e (by omega) q0 he
    by_cases q1 : pc / 16 < 16
    · exact ex_chkR_s ex_ckL_8 pc e (by omega) q1 he
    by_cases q2 : pc / 16 < 24
    · exact ex_chkR_s ex_ckL_16 pc e (by omega) q2 he
    by_cases q3 : pc / 16 < 32
    · exact ex_chkR_s ex_ckL_24 pc e (by omega) q3 he
    by_cases q4 : pc / 16 < 40
    · exact ex_chkR_s ex_ckL_32 pc e (by omega) q4 he
    by_cases q5 : pc / 16 < 48
    · exact ex_chkR_s ex_ckL_40 pc e (by omega) q5 he
    exact ex_chkR_s ex_ckL_48 pc e (by omega) (by omega) he
  refine ⟨h.1, ?_⟩
  have h2 := h.2
  obtain ⟨ins, x, y, z, nx⟩ := e
  cases ins <;> exact h2
