/-! ===== the program's rows all at once; runs of the roads are runs of the interpreter ===== -/
theorem ex_okM_g {L : Nat} {xs : Nat → Int32} {M : ex_M} (h : ex_okM ex_g0 ex_P0 M) : ex_okM (ex_g L xs) ex_P0 M := by
  refine ⟨h.1, h.2.1, h.2.2.1, h.2.2.2.1, h.2.2.2.2.1, fun pc e he => ?_⟩
  have h1 := h.2.2.2.2.2 pc e he
  refine ⟨h1.1, ?_⟩
  have h2 := h1.2
  obtain ⟨ins, x, y, z, nx⟩ := e
  cases ins <;> exact h2
theorem ex_ok_all : ∀ M ∈ ex_prog, ex_okM ex_g0 ex_P0 M := by
  unfold ex_prog
  refine List.forall_mem_cons.mpr ⟨ex_ck0, ?_⟩
  refine List.forall_mem_cons.mpr ⟨ex_ck1, ?_⟩
  refine List.forall_mem_cons.mpr ⟨ex_ck2, ?_⟩
  refine List.forall_mem_cons.mpr ⟨ex_ck3, ?_⟩
  refine List.forall_mem_cons.mpr ⟨ex_ck4, ?_⟩
  refine List.forall_mem_cons.mpr ⟨ex_ck5, ?_⟩
  refine List.forall_mem_cons.mpr ⟨ex_ck6, ?_⟩
  refine List.forall_mem_cons.mpr ⟨ex_ck7, ?_⟩
  refine List.forall_mem_cons.mpr ⟨ex_ck8, ?_⟩
  refine List.forall_mem_cons.mpr ⟨ex_ck9, ?_⟩
  refine List.forall_mem_cons.mpr ⟨ex_ck10, ?_⟩
  refine List.forall_mem_cons.mpr ⟨ex_ck11, ?_⟩
  refine List.forall_mem_cons.mpr ⟨ex_ck12, ?_⟩
  refine List.forall_mem_cons.mpr ⟨ex_ck13, ?_⟩
  refine List.forall_mem_cons.mpr ⟨ex_ck14, ?_⟩
  refine List.forall_mem_cons.mpr ⟨ex_ck15, ?_⟩
  refine List.forall_mem_cons.mpr ⟨ex_ck16, ?_⟩
  refine List.forall_mem_cons.mpr ⟨ex_ck17, ?_⟩
  refine List.forall_mem_cons.mpr ⟨ex_ck18, ?_⟩
  refine List.forall_mem_cons.mpr ⟨ex_ck19, ?_⟩
  refine List.forall_mem_cons.mpr ⟨ex_ck20, ?_⟩
  refine List.forall_mem_cons.mpr ⟨ex_ck21, ?_⟩
  refine List.forall_mem_cons.mpr ⟨ex_ck22, ?_⟩
  refine List.forall_mem_cons.mpr ⟨ex_ck23, ?_⟩
  refine List.forall_mem_cons.mpr ⟨ex_ck24, ?_⟩
  refine List.forall_mem_cons.mpr ⟨ex_ck25, ?_⟩
  refine List.forall_mem_cons.mpr ⟨ex_ck26, ?_⟩
  refine List.forall_mem_cons.mpr ⟨ex_ck27, ?_⟩
  refine List.forall_mem_cons.mpr ⟨ex_ck28, ?_⟩
  refine List.forall_mem_cons.mpr ⟨ex_ck29, ?_⟩
  refine List.forall_mem_cons.mpr ⟨ex_ck30, ?_⟩
  refine List.forall_mem_cons.mpr ⟨ex_ck31, ?_⟩
  refine List.forall_mem_cons.mpr ⟨ex_ck32, ?_⟩
  refine List.forall_mem_cons.mpr ⟨ex_ck33, ?_⟩
  refine List.forall_mem_cons.mpr ⟨ex_ck34, ?_⟩
  refine List.forall_mem_cons.mpr ⟨ex_ck35, ?_⟩
  refine List.forall_mem_cons.mpr ⟨ex_ck36, ?_⟩
  refine List.forall_mem_cons.mpr ⟨ex_ck37, ?_⟩
  refine List.forall_mem_cons.mpr ⟨ex_ck38, ?_⟩
  refine List.forall_mem_cons.mpr ⟨ex_ck39, ?_⟩
  refine List.forall_mem_cons.mpr ⟨ex_ck40, ?_⟩
  refine List.forall_mem_cons.mpr ⟨ex_ck41, ?_⟩
  refine List.forall_mem_cons.mpr ⟨ex_ck42, ?_⟩
  refine List.forall_mem_cons.mpr ⟨ex_ck43, ?_⟩
  refine List.forall_mem_cons.mpr ⟨ex_ck44, ?_⟩
  refine List.forall_mem_cons.mpr ⟨ex_ck45, ?_⟩
  refine List.forall_mem_cons.mpr ⟨ex_ck46, ?_⟩
  refine List.forall_mem_cons.mpr ⟨ex_ck47, ?_⟩
  refine List.forall_mem_cons.mpr ⟨ex_ck48, ?_⟩
  refine List.forall_mem_cons.mpr ⟨ex_ck49, ?_⟩
  refine List.forall_mem_cons.mpr ⟨ex_ck50, ?_⟩
  refine List.forall_mem_cons.mpr ⟨ex_ck51, ?_⟩
  refine List.forall_mem_cons.mpr ⟨ex_ck52, ?_⟩
  refine List.forall_mem_cons.mpr ⟨ex_ck53, ?_⟩
  refine List.forall_mem_cons.mpr ⟨ex_ck54, ?_⟩
  refine List.forall_mem_cons.mpr ⟨ex_ck55, ?_⟩
  refine List.forall_mem_cons.mpr ⟨ex_ck56, ?_⟩
  refine List.forall_mem_cons.mpr ⟨ex_ck57, ?_⟩
  refine List.forall_mem_cons.mpr ⟨ex_ck58, ?_⟩
  refine List.forall_mem_cons.mpr ⟨ex_ck59, ?_⟩
  refine List.forall_mem_cons.mpr ⟨ex_ck60, ?_⟩
  refine List.forall_mem_cons.mpr ⟨ex_ck61, ?_⟩
  refine List.forall_mem_cons.mpr ⟨ex_ck62, ?_⟩
  refine List.forall_mem_cons.mpr ⟨ex_ck63, ?_⟩
  refine List.forall_mem_cons.mpr ⟨ex_ck64, ?_⟩
  refine List.forall_mem_cons.mpr ⟨ex_ck65, ?_⟩
  refine List.forall_mem_cons.mpr ⟨ex_ck66, ?_⟩
  refine List.forall_mem_cons.mpr ⟨ex_ck67, ?_⟩
  refine List.forall_mem_cons.mpr ⟨ex_ck68, ?_⟩
  refine List.forall_mem_cons.mpr ⟨ex_ck69, ?_⟩
  refine List.forall_mem_cons.mpr ⟨ex_ck70, ?_⟩
  refine List.forall_mem_cons.mpr ⟨ex_ck71, ?_⟩
  refine List.forall_mem_cons.mpr ⟨ex_ck72, ?_⟩
  refine List.forall_mem_cons.mpr ⟨ex_ck73, ?_⟩
  refine List.forall_mem_cons.mpr ⟨ex_ck74, ?_⟩
  refine List.forall_mem_cons.mpr ⟨ex_ck75, ?_⟩
  refine List.forall_mem_cons.mpr ⟨ex_ck76, ?_⟩
  refine List.forall_mem_cons.mpr ⟨ex_ck77, ?_⟩
  refine List.forall_mem_cons.mpr ⟨ex_ck78, ?_⟩
  refine List.forall_mem_cons.mpr ⟨ex_ck79, ?_⟩
  refine List.forall_mem_cons.mpr ⟨ex_ck80, ?_⟩
  refine List.forall_mem_cons.mpr ⟨ex_ck81, ?_⟩
  refine List.forall_mem_cons.mpr ⟨ex_ck82, ?_⟩
  refine List.forall_mem_cons.mpr ⟨ex_ck83, ?_⟩
  refine List.forall_mem_cons.mpr ⟨ex_ck84, ?_⟩
  refine List.forall_mem_cons.mpr ⟨ex_ck85, ?_⟩
  refine List.forall_mem_cons.mpr ⟨ex_ck86, ?_⟩
  refine List.forall_mem_cons.mpr ⟨ex_ck87, ?_⟩
  refine List.forall_mem_cons.mpr ⟨ex_ck88, ?_⟩
  refine List.forall_mem_cons.mpr ⟨ex_ck89, ?_⟩
  refine List.forall_mem_cons.mpr ⟨ex_ck90, ?_⟩
  refine List.forall_mem_cons.mpr ⟨ex_ck91, ?_⟩
  refine List.forall_mem_cons.mpr ⟨ex_ck92, ?_⟩
  refine List.forall_mem_cons.mpr ⟨ex_ck93, ?_⟩
  refine List.forall_mem_cons.mpr ⟨ex_ck94, ?_⟩
  refine List.forall_mem_cons.mpr ⟨ex_ck95, ?_⟩
  refine List.forall_mem_cons.mpr ⟨ex_ck96, ?_⟩
  refine List.forall_mem_cons.mpr ⟨ex_ck97, ?_⟩
  refine List.forall_mem_cons.mpr ⟨ex_ck98, ?_⟩
  refine List.forall_mem_cons.mpr ⟨ex_ck99, ?_⟩
  refine List.forall_mem_cons.mpr ⟨ex_ck100, ?_⟩
  refine List.forall_mem_cons.mpr ⟨ex_ck101, ?_⟩
  refine List.forall_mem_cons.mpr ⟨ex_ck102, ?_⟩
  refine List.forall_mem_cons.mpr ⟨ex_ck103, ?_⟩
  exact fun _ h => by cases h
theorem ex_P0_ok (L : Nat) (xs : Nat → Int32) : ∀ (k : Nat) (M : ex_M), ex_P0 k = some M → ex_okM (ex_g L xs) ex_P0 M := by
  intro k M h
  unfold ex_P0 at h
  rw [ex_nth_eq] at h
  exact ex_okM_g (ex_ok_all M (List.mem_of_getElem? h))
noncomputable def ex_F1 (M : ex_M) : Nat × List (List (Option ex_K)) := (M.2.2.1, ex_rows M.2.2.1 M.2.2.2.1 0 M.2.2.2.2)
theorem ex_consE {α : Type} {a b : α} {l m : List α} (e : a = b) (t : l = m) : a :: l = b :: m := by rw [e, t]
theorem ex_progF_eq : ex_progF = ex_prog.map ex_F1 := by
  unfold ex_progF ex_prog
  simp only [List.map_cons, List.map_nil]
  refine ex_consE (congrArg (Prod.mk 3) ex_k0_eq) ?_
  refine ex_consE (congrArg (Prod.mk 2) ex_k1_eq) ?_
  refine ex_consE (congrArg (Prod.mk 1) ex_k2_eq) ?_
  refine ex_consE (congrArg (Prod.mk 4) ex_k3_eq) ?_
  refine ex_consE (congrArg (Prod.mk 5) ex_k4_eq) ?_
  refine ex_consE (congrArg (Prod.mk 4) ex_k5_eq) ?_
  refine ex_consE (congrArg (Prod.mk 3) ex_k6_eq) ?_
  refine ex_consE (congrArg (Prod.mk 1) ex_k7_eq) ?_
  refine ex_consE (congrArg (Prod.mk 2) ex_k8_eq) ?_
  refine ex_consE (congrArg (Prod.mk 2) ex_k9_eq) ?_
  refine ex_consE (congrArg (Prod.mk 1) ex_k10_eq) ?_
  refine ex_consE (congrArg (Prod.mk 3) ex_k11_eq) ?_
  refine ex_consE (congrArg (Prod.mk 4) ex_k12_eq) ?_
  refine ex_consE (congrArg (Prod.mk 2) ex_k13_eq) ?_
  refine ex_consE (congrArg (Prod.mk 4) ex_k14_eq) ?_
  refine ex_consE (congrArg (Prod.mk 1) ex_k15_eq) ?_
  refine ex_consE (congrArg (Prod.mk 4) ex_k16_eq) ?_
  refine ex_consE (congrArg (Prod.mk 5) ex_k17_eq) ?_
  refine ex_consE (congrArg (Prod.mk 1) ex_k18_eq) ?_
  refine ex_consE (congrArg (Prod.mk 2) ex_k19_eq) ?_
  refine ex_consE (congrArg (Prod.mk 2) ex_k20_eq) ?_
  refine ex_consE (congrArg (Prod.mk 3) ex_k21_eq) ?_
  refine ex_consE (congrArg (Prod.mk 2) ex_k22_eq) ?_
  refine ex_consE (congrArg (Prod.mk 6) ex_k23_eq) ?_
  refine ex_consE (congrArg (Prod.mk 2) ex_k24_eq) ?_
  refine ex_consE (congrArg (Prod.mk 1) ex_k25_eq) ?_
  refine ex_consE (congrArg (Prod.mk 2) ex_k26_eq) ?_
  refine ex_consE (congrArg (Prod.mk 3) ex_k27_eq) ?_
  refine ex_consE (congrArg (Prod.mk 2) ex_k28_eq) ?_
  refine ex_consE (congrArg (Prod.mk 3) ex_k29_eq) ?_
  refine ex_consE (congrArg (Prod.mk 3) ex_k30_eq) ?_
  refine ex_consE (congrArg (Prod.mk 2) ex_k31_eq) ?_
  refine ex_consE (congrArg (Prod.mk 3) ex_k32_eq) ?_
  refine ex_consE (congrArg (Prod.mk 2) ex_k33_eq) ?_
  refine ex_consE (congrArg (Prod.mk 6) ex_k34_eq) ?_
  refine ex_consE (congrArg (Prod.mk 3) ex_k35_eq) ?_
  refine ex_consE (congrArg (Prod.mk 2) ex_k36_eq) ?_
  refine ex_consE (congrArg (Prod.mk 4) ex_k37_eq) ?_
  refine ex_consE (congrArg (Prod.mk 3) ex_k38_eq) ?_
  refine ex_consE (congrArg (Prod.mk 4) ex_k39_eq) ?_
  refine ex_consE (congrArg (Prod.mk 1) ex_k40_eq) ?_
  refine ex_consE (congrArg (Prod.mk 3) ex_k41_eq) ?_
  refine ex_consE (congrArg (Prod.mk 3) ex_k42_eq) ?_
  refine ex_consE (congrArg (Prod.mk 7) ex_k43_eq) ?_
  refine ex_consE (congrArg (Prod.mk 1) ex_k44_eq) ?_
  refine ex_consE (congrArg (Prod.mk 3) ex_k45_eq) ?_
  refine ex_consE (congrArg (Prod.mk 3) ex_k46_eq) ?_
  refine ex_consE (congrArg (Prod.mk 2) ex_k47_eq) ?_
  refine ex_consE (congrArg (Prod.mk 1) ex_k48_eq) ?_
  refine ex_consE (congrArg (Prod.mk 5) ex_k49_eq) ?_
  refine ex_consE (congrArg (Prod.mk 1) ex_k50_eq) ?_
  refine ex_consE (congrArg (Prod.mk 2) ex_k51_eq) ?_
  refine ex_consE (congrArg (Prod.mk 2) ex_k52_eq) ?_
  refine ex_consE (congrArg (Prod.mk 1) ex_k53_eq) ?_
  refine ex_consE (congrArg (Prod.mk 2) ex_k54_eq) ?_
  refine ex_consE (congrArg (Prod.mk 3) ex_k55_eq) ?_
  refine ex_consE (congrArg (Prod.mk 1) ex_k56_eq) ?_
  refine ex_consE (congrArg (Prod.mk 1) ex_k57_eq) ?_
  refine ex_consE (congrArg (Prod.mk 1) ex_k58_eq) ?_
  refine ex_consE (congrArg (Prod.mk 5) ex_k59_eq) ?_
  refine ex_consE (congrArg (Prod.mk 2) ex_k60_eq) ?_
  refine ex_consE (congrArg (Prod.mk 5) ex_k61_eq) ?_
  refine ex_consE (congrArg (Prod.mk 4) ex_k62_eq) ?_
  refine ex_consE (congrArg (Prod.mk 3) ex_k63_eq) ?_
  refine ex_consE (congrArg (Prod.mk 3) ex_k64_eq) ?_
  refine ex_consE (congrArg (Prod.mk 2) ex_k65_eq) ?_
  refine ex_consE (congrArg (Prod.mk 5) ex_k66_eq) ?_
  refine ex_consE (congrArg (Prod.mk 3) ex_k67_eq) ?_
  refine ex_consE (congrArg (Prod.mk 2) ex_k68_eq) ?_
  refine ex_consE (congrArg (Prod.mk 6) ex_k69_eq) ?_
  refine ex_consE (congrArg (Prod.mk 3) ex_k70_eq) ?_
  refine ex_consE (congrArg (Prod.mk 2) ex_k71_eq) ?_
  refine ex_consE (congrArg (Prod.mk 1) ex_k72_eq) ?_
  refine ex_consE (congrArg (Prod.mk 3) ex_k73_eq) ?_
  refine ex_consE (congrArg (Prod.mk 6) ex_k74_eq) ?_
  refine ex_consE (congrArg (Prod.mk 8) ex_k75_eq) ?_
  refine ex_consE (congrArg (Prod.mk 2) ex_k76_eq) ?_
  refine ex_consE (congrArg (Prod.mk 2) ex_k77_eq) ?_
  refine ex_consE (congrArg (Prod.mk 3) ex_k78_eq) ?_
  refine ex_consE (congrArg (Prod.mk 7) ex_k79_eq) ?_
  refine ex_consE (congrArg (Prod.mk 3) ex_k80_eq) ?_
  refine ex_consE (congrArg (Prod.mk 2) ex_k81_eq) ?_
  refine ex_consE (congrArg (Prod.mk 5) ex_k82_eq) ?_
  refine ex_consE (congrArg (Prod.mk 3) ex_k83_eq) ?_
  refine ex_consE (congrArg (Prod.mk 2) ex_k84_eq) ?_
  refine ex_consE (congrArg (Prod.mk 1) ex_k85_eq) ?_
  refine ex_consE (congrArg (Prod.mk 6) ex_k86_eq) ?_
  refine ex_consE (congrArg (Prod.mk 1) ex_k87_eq) ?_
  refine ex_consE (congrArg (Prod.mk 5) ex_k88_eq) ?_
  refine ex_consE (congrArg (Prod.mk 6) ex_k89_eq) ?_
  refine ex_consE (congrArg (Prod.mk 2) ex_k90_eq) ?_
  refine ex_consE (congrArg (Prod.mk 1) ex_k91_eq) ?_
  refine ex_consE (congrArg (Prod.mk 2) ex_k92_eq) ?_
  refine ex_consE (congrArg (Prod.mk 3) ex_k93_eq) ?_
  refine ex_consE (congrArg (Prod.mk 1) ex_k94_eq) ?_
  refine ex_consE (congrArg (Prod.mk 3) ex_k95_eq) ?_
  refine ex_consE (congrArg (Prod.mk 2) ex_k96_eq) ?_
  refine ex_consE (congrArg (Prod.mk 2) ex_k97_eq) ?_
  refine ex_consE (congrArg (Prod.mk 1) ex_k98_eq) ?_
  refine ex_consE (congrArg (Prod.mk 1) ex_k99_eq) ?_
  refine ex_consE (congrArg (Prod.mk 1) ex_k100_eq) ?_
  refine ex_consE (congrArg (Prod.mk 2) ex_k101_eq) ?_
  refine ex_consE (congrArg (Prod.mk 4) ex_k102_eq) ?_
  refine ex_consE (congrArg (Prod.mk 3) ex_k103_eq) ?_
  rfl
theorem ex_Q0_eq (k : Nat) : ex_Q0 k = (ex_P0 k).map (fun M => (M.2.2.1, ex_rows M.2.2.1 M.2.2.2.1 0 M.2.2.2.2)) := by
  unfold ex_Q0 ex_P0
  rw [ex_nth_eq, ex_nth_eq, ex_progF_eq, List.getElem?_map]
  rfl
theorem ex_more_g (L : Nat) (xs : Nat → Int32) : ex_more ex_g0 (ex_g L xs) := by
  refine ⟨rfl, fun i c h => ?_⟩
  have h : ex_xt0 i = some c := h
  show ex_xtf L xs i = some c
  unfold ex_xt0 at h
  unfold ex_xtf
  cases hb : Nat.blt i 146 with
  | true =>
    rw [hb] at h
    exact h
  | false =>
    rw [hb] at h
    cases h
theorem ex_toRun (L : Nat) (xs : Nat → Int32) {N k : Nat} {as : List Value} {h : ex_H} {r : Option Value × ex_H} (hN : N ≤ 1000000) (q : ex_runF ex_g0 ex_Q0 N 20 k as h = some r) : ex_run (ex_g L xs) ex_P0 1000000 20 k as h = some r := by
  rw [ex_runF_eq ex_g0 ex_P0 ex_Q0 N ex_Q0_eq] at q
  exact ex_run_more (ex_more_g L xs) (fun _ _ h => h) hN 20 20 k as h r (Nat.le_refl 20) q
