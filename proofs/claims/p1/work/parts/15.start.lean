/-! ===== what the tables and the start give: classes, strings, statics ===== -/
noncomputable def ex_inT (i : Nat) (w : Jvm.Cond) : Bool := match ex_nth ex_tabs (Nat.div i 1000) with
  | some l => decide (ex_nth l (Nat.mod i 1000) = some w)
  | none => false
theorem ex_inT_s {i : Nat} {w : Jvm.Cond} (h : ex_inT i w = true) : w ∈ lw_tbl := by
  unfold ex_inT at h
  cases hl : ex_nth ex_tabs (Nat.div i 1000) with
  | none => rw [hl] at h; cases h
  | some l =>
    rw [hl] at h
    have h2 := of_decide_eq_true h
    rw [ex_nth_eq] at hl h2
    exact ex_tabs_in l (List.mem_of_getElem? hl) w (List.mem_of_getElem? h2)
noncomputable def ex_layb (C : String) (T : u_T) (N : Nat) (zs : List Nat) : Bool := (List.range N).all (fun k => ex_inb (zs.getD k 0) (u_lay C T k))
theorem ex_layb_s {C : String} {T : u_T} {N : Nat} {zs : List Nat} (h : ex_layb C T N zs = true) : ∀ w ∈ u_ws C T N, w ∈ ex_wall := by
  intro w hw
  obtain ⟨k, hk, rfl⟩ := List.mem_map.mp hw
  exact ex_inb_s (List.all_eq_true.mp h k hk)
def ex_tyb (T : u_T) (N : Nat) (fs : List FieldType) : Bool := Nat.beq fs.length N && (List.range N).all (fun k => decide (parseFieldDescriptor (T k).2.2.1 = some (fs.getD k .int)))
theorem ex_tyb_s {T : u_T} {N : Nat} {fs : List FieldType} (h : ex_tyb T N fs = true) : fs.length = N ∧ ∀ k, k < N → parseFieldDescriptor (T k).2.2.1 = some (fs.getD k .int) := by
  unfold ex_tyb at h
  rw [Bool.and_eq_true] at h
  exact ⟨Nat.eq_of_beq_eq_true h.1, fun k hk => of_decide_eq_true (List.all_eq_true.mp h.2 k (List.mem_range.mpr hk))⟩
theorem ex_lay0 : ex_layb RX0 TX0 3 [3088, 3090, 3092] = true := by decide +kernel
theorem ex_ty0 : ex_tyb TX0 3 (ex_ft 0) = true := by decide +kernel
theorem ex_lay1 : ex_layb RX1 TX1 9 [2105, 2107, 2109, 2111, 2113, 2115, 2117, 2119, 2121] = true := by decide +kernel
theorem ex_ty1 : ex_tyb TX1 9 (ex_ft 1) = true := by decide +kernel
theorem ex_lay2 : ex_layb RX2 TX2 15 [2061, 2063, 2065, 2067, 2069, 2071, 2073, 2075, 2077, 2079, 2081, 2083, 2085, 2087, 2089] = true := by decide +kernel
theorem ex_ty2 : ex_tyb TX2 15 (ex_ft 2) = true := by decide +kernel
theorem ex_lay3 : ex_layb RX3 TX3 10 [2193, 2195, 2197, 2199, 2201, 2203, 2205, 2207, 2209, 2211] = true := by decide +kernel
theorem ex_ty3 : ex_tyb TX3 10 (ex_ft 3) = true := by decide +kernel
theorem ex_lay4 : ex_layb RX4 TX4 19 [3040, 3042, 3044, 3046, 3048, 3050, 3052, 3054, 3056, 3058, 3060, 3062, 3064, 3066, 3068, 3070, 3072, 3074, 3076] = true := by decide +kernel
theorem ex_ty4 : ex_tyb TX4 19 (ex_ft 4) = true := by decide +kernel
theorem ex_lay5 : ex_layb RX5 TX5 18 [1237, 1239, 2001, 2003, 2005, 2007, 2009, 2011, 2013, 2015, 2017, 2019, 2021, 2023, 2025, 2027, 2029, 2031] = true := by decide +kernel
theorem ex_ty5 : ex_tyb TX5 18 (ex_ft 5) = true := by decide +kernel
theorem ex_lay6 : ex_layb RX6 TX6 13 [2148, 2150, 2152, 2154, 2156, 2158, 2160, 2162, 2164, 2166, 2168, 2170, 2172] = true := by decide +kernel
theorem ex_ty6 : ex_tyb TX6 13 (ex_ft 6) = true := by decide +kernel
theorem ex_lay7 : ex_layb RX7 TX7 9 [1111, 1113, 1115, 1117, 1119, 1121, 1123, 1125, 1127] = true := by decide +kernel
theorem ex_ty7 : ex_tyb TX7 9 (ex_ft 7) = true := by decide +kernel
theorem ex_lay8 : ex_layb RX8 TX8 15 [1173, 1175, 1177, 1179, 1181, 1183, 1185, 1187, 1189, 1191, 1193, 1195, 1197, 1199, 1201] = true := by decide +kernel
theorem ex_ty8 : ex_tyb TX8 15 (ex_ft 8) = true := by decide +kernel
theorem ex_lay9 : ex_layb RX9 TX9 9 [2232, 2234, 2236, 2238, 3000, 3002, 3004, 3006, 3008] = true := by decide +kernel
theorem ex_ty9 : ex_tyb TX9 9 (ex_ft 9) = true := by decide +kernel
theorem ex_lay10 : ex_layb RX10 TX10 18 [3124, 3126, 3128, 3130, 3132, 3134, 3136, 3138, 3140, 3142, 3144, 3146, 3148, 3150, 3152, 3154, 3156, 3158] = true := by decide +kernel
theorem ex_ty10 : ex_tyb TX10 18 (ex_ft 10) = true := by decide +kernel
theorem ex_lay11 : ex_layb RX11 TX11 19 [3180, 3182, 3184, 3186, 3188, 3190, 3192, 3194, 3196, 3198, 3200, 3202, 3204, 3206, 3208, 3210, 3212, 3214, 3216] = true := by decide +kernel
theorem ex_ty11 : ex_tyb TX11 19 (ex_ft 11) = true := by decide +kernel
theorem ex_lay12 : ex_layb RX12 TX12 121 [10077, 10079, 10081, 10083, 10085, 10087, 10089, 10091, 10093, 10095, 10097, 10099, 10101, 10103, 10105, 10107, 10109, 10111, 10113, 10115, 10117, 10119, 10121, 10123, 10125, 10127, 10129, 10131, 10133, 10135, 10137, 10139, 10141, 10143, 10145, 10147, 10149, 10151, 10153, 10155, 10157, 10159, 10161, 10163, 10165, 10167, 10169, 10171, 10173, 10175, 10177, 10179, 10181, 10183, 10185, 10187, 10189, 10191, 10193, 10195, 10197, 10199, 10201, 10203, 10205, 10207, 10209, 10211, 10213, 10215, 10217, 10219, 10221, 10223, 10225, 10227, 10229, 10231, 10233, 10235, 10237, 10239, 11001, 11003, 11005, 11007, 11009, 11011, 11013, 11015, 11017, 11019, 11021, 11023, 11025, 11027, 11029, 11031, 11033, 11035, 11037, 11039, 11041, 11043, 11045, 11047, 11049, 11051, 11053, 11055, 11057, 11059, 11061, 11063, 11065, 11067, 11069, 11071, 11073, 11075, 11077] = true := by decide +kernel
theorem ex_ty12 : ex_tyb TX12 121 (ex_ft 12) = true := by decide +kernel
theorem ex_clsOk_p : ex_clsOk := by
  intro ci r h
  match ci, h with
  | 0, h =>
    have h : some (RX0, TX0, 3) = some r := h
    cases h
    exact ⟨ex_layb_s ex_lay0, nmX0, (ex_tyb_s ex_ty0).1, (ex_tyb_s ex_ty0).2⟩
  | 1, h =>
    have h : some (RX1, TX1, 9) = some r := h
    cases h
    exact ⟨ex_layb_s ex_lay1, nmX1, (ex_tyb_s ex_ty1).1, (ex_tyb_s ex_ty1).2⟩
  | 2, h =>
    have h : some (RX2, TX2, 15) = some r := h
    cases h
    exact ⟨ex_layb_s ex_lay2, nmX2, (ex_tyb_s ex_ty2).1, (ex_tyb_s ex_ty2).2⟩
  | 3, h =>
    have h : some (RX3, TX3, 10) = some r := h
    cases h
    exact ⟨ex_layb_s ex_lay3, nmX3, (ex_tyb_s ex_ty3).1, (ex_tyb_s ex_ty3).2⟩
  | 4, h =>
    have h : some (RX4, TX4, 19) = some r := h
    cases h
    exact ⟨ex_layb_s ex_lay4, nmX4, (ex_tyb_s ex_ty4).1, (ex_tyb_s ex_ty4).2⟩
  | 5, h =>
    have h : some (RX5, TX5, 18) = some r := h
    cases h
    exact ⟨ex_layb_s ex_lay5, nmX5, (ex_tyb_s ex_ty5).1, (ex_tyb_s ex_ty5).2⟩
  | 6, h =>
    have h : some (RX6, TX6, 13) = some r := h
    cases h
    exact ⟨ex_layb_s ex_lay6, nmX6, (ex_tyb_s ex_ty6).1, (ex_tyb_s ex_ty6).2⟩
  | 7, h =>
    have h : some (RX7, TX7, 9) = some r := h
    cases h
    exact ⟨ex_layb_s ex_lay7, nmX7, (ex_tyb_s ex_ty7).1, (ex_tyb_s ex_ty7).2⟩
  | 8, h =>
    have h : some (RX8, TX8, 15) = some r := h
    cases h
    exact ⟨ex_layb_s ex_lay8, nmX8, (ex_tyb_s ex_ty8).1, (ex_tyb_s ex_ty8).2⟩
  | 9, h =>
    have h : some (RX9, TX9, 9) = some r := h
    cases h
    exact ⟨ex_layb_s ex_lay9, nmX9, (ex_tyb_s ex_ty9).1, (ex_tyb_s ex_ty9).2⟩
  | 10, h =>
    have h : some (RX10, TX10, 18) = some r := h
    cases h
    exact ⟨ex_layb_s ex_lay10, nmX10, (ex_tyb_s ex_ty10).1, (ex_tyb_s ex_ty10).2⟩
  | 11, h =>
    have h : some (RX11, TX11, 19) = some r := h
    cases h
    exact ⟨ex_layb_s ex_lay11, nmX11, (ex_tyb_s ex_ty11).1, (ex_tyb_s ex_ty11).2⟩
  | 12, h =>
    have h : some (RX12, TX12, 121) = some r := h
    cases h
    exact ⟨ex_layb_s ex_lay12, nmX12, (ex_tyb_s ex_ty12).1, (ex_tyb_s ex_ty12).2⟩
  | n + 13, h =>
    have h1 := (List.getElem?_eq_some_iff.mp h).1
    have h2 : ex_cl.length = 13 := rfl
    omega
noncomputable def ex_ableb : Bool := (List.range 13).all (fun ci => match ex_nth ex_cl ci with | some r => ex_inT ([3080, 2035, 2041, 2176, 3012, 1206, 2125, 1031, 1133, 2215, 3096, 1023, 9137].getD ci 0) (Jvm.Cond.instantiable r.1 r.2.2) | none => false)
theorem ex_ableb_t : ex_ableb = true := by decide +kernel
theorem ex_able {ci : Nat} {r : vw_C} (h : ex_cl[ci]? = some r) : Jvm.Cond.instantiable r.1 r.2.2 ∈ lw_tbl := by
  have h1 := (List.getElem?_eq_some_iff.mp h).1
  have h2 : ex_cl.length = 13 := rfl
  have h3 := List.all_eq_true.mp ex_ableb_t ci (List.mem_range.mpr (by omega))
  rw [ex_nth_eq, h] at h3
  exact ex_inT_s h3
/-- the words of the precondition on a String constant -/
def ex_sw (q : String × Nat × String × List Int32) : List Jvm.Cond :=
  Jvm.Cond.exactly (.string q.1 q.2.1) "java/lang/String" :: Jvm.Cond.eq (.field (.string q.1 q.2.1) "java/lang/String" "coder" "B") (.int 0) :: Jvm.Cond.arrayOf (.field (.string q.1 q.2.1) "java/lang/String" "value" "[B") .byte ::
  Jvm.Cond.eq (.length (.field (.string q.1 q.2.1) "java/lang/String" "value" "[B")) (.int (Int32.ofNat q.2.2.2.length)) ::
  (List.range q.2.2.2.length).map (fun j => Jvm.Cond.eq (.elem (.field (.string q.1 q.2.1) "java/lang/String" "value" "[B") (.int (Int32.ofNat j))) (.int (q.2.2.2.getD j 0)))
/-- a list begins with these: what is behind them -/
def ex_cut : List Jvm.Cond → List Jvm.Cond → Option (List Jvm.Cond)
  | l, [] => some l
  | [], _ :: _ => none
  | a :: l, w :: ws => bif decide (a = w) then ex_cut l ws else none
theorem ex_cut_s : ∀ (ws l r : List Jvm.Cond), ex_cut l ws = some r → (∀ w ∈ ws, w ∈ l) ∧ ∀ w ∈ r, w ∈ l := by
  intro ws
  induction ws with
  | nil =>
    intro l r h
    have h : some l = some r := by
      rw [← h]
      cases l <;> rfl
    cases h
    exact ⟨(fun w hw => by cases hw), fun w hw => hw⟩
  | cons w ws ih =>
    intro l r h
    cases l with
    | nil => cases h
    | cons a l =>
      have h9 : (bif decide (a = w) then ex_cut l ws else none) = some r := h
      cases hd : decide (a = w) with
      | false => rw [hd] at h9; cases h9
      | true =>
        rw [hd] at h9
        have e := of_decide_eq_true hd
        subst e
        obtain ⟨h1, h2⟩ := ih l r h9
        refine ⟨fun x hx => ?_, fun x hx => List.mem_cons_of_mem _ (h2 x hx)⟩
        rcases List.mem_cons.mp hx with rfl | hx
        · exact List.mem_cons_self
        · exact List.mem_cons_of_mem _ (h1 x hx)
noncomputable def ex_walk : List Jvm.Cond → List (Nat × Nat) → Bool
  | _, [] => true
  | l, p :: r => match ex_nth ex_sl p.2 with
    | none => false
    | some q => match ex_cut (l.drop p.1) (ex_sw q) with
      | none => false
      | some l => ex_walk l r
theorem ex_walk_s : ∀ (ps : List (Nat × Nat)) (l : List Jvm.Cond), ex_walk l ps = true → ∀ p ∈ ps, ∀ q, ex_sl[p.2]? = some q → ∀ w ∈ ex_sw q, w ∈ l := by
  intro ps
  induction ps with
  | nil => intro l h p hp; cases hp
  | cons p0 ps ih =>
    intro l h p hp q hq w hw
    unfold ex_walk at h
    cases h0 : ex_nth ex_sl p0.2 with
    | none => rw [h0] at h; cases h
    | some q0 =>
      rw [h0] at h
      simp only at h
      cases h1 : ex_cut (l.drop p0.1) (ex_sw q0) with
      | none => rw [h1] at h; cases h
      | some l1 =>
        rw [h1] at h
        obtain ⟨g1, g2⟩ := ex_cut_s _ _ _ h1
        rcases List.mem_cons.mp hp with rfl | hp
        · rw [ex_nth_eq, hq] at h0
          cases h0
          exact List.mem_of_mem_drop (g1 w hw)
        · exact List.mem_of_mem_drop (g2 w (ih l1 h p hp q hq w hw))
noncomputable def ex_ps : List (Nat × Nat) := [(200, 2), (2, 0), (2, 1), (625, 3), (2, 4), (2, 5), (2, 6), (2, 7), (2, 8), (2, 9), (2, 10), (2, 11), (2, 12), (2, 13), (2, 14), (2, 15), (2, 16), (2, 17), (2, 18), (2, 19), (2, 20), (2, 21), (2, 22), (2, 23), (2, 24), (2, 25), (2, 26), (2, 27), (2, 28), (2, 29), (2, 30), (2, 31), (2, 32), (2, 33), (2, 34), (2, 35), (2, 36), (2, 37), (2, 38), (2, 39), (2, 40), (2, 41), (2, 42), (2, 43), (2, 44), (2, 45), (2, 46), (2, 47), (2, 48), (2, 49), (2, 61), (3, 62), (40, 63), (4, 64), (4, 65), (23, 56), (327, 55), (2, 57), (2, 58), (2, 59), (2, 60), (23, 50), (59, 51), (2, 52), (2, 53), (2, 54), (2, 66), (138, 67), (3, 68), (14, 69), (3, 70), (2, 71), (2, 72)]
theorem ex_ps_t : ex_walk (flatC (Jvm.Cond.and given_1 narrow_1)) ex_ps = true := by decide +kernel
theorem ex_ps_all : (List.range 73).all (fun k => ex_ps.any (fun p => Nat.beq p.2 k)) = true := by decide +kernel
theorem ex_sl_n : ex_sl.length = 73 := rfl
theorem ex_sl_small : ex_sl.all (fun q => Nat.blt q.2.2.2.length 1000) = true := by decide +kernel
theorem ex_sw_in {k : Nat} {q : String × Nat × String × List Int32} (h : ex_sl[k]? = some q) : ∀ w ∈ ex_sw q, w ∈ flatC (Jvm.Cond.and given_1 narrow_1) := by
  have h1 := (List.getElem?_eq_some_iff.mp h).1
  rw [ex_sl_n] at h1
  obtain ⟨p, hp, e⟩ := List.any_eq_true.mp (List.all_eq_true.mp ex_ps_all k (List.mem_range.mpr h1))
  have e := Nat.eq_of_beq_eq_true e
  subst e
  exact ex_walk_s ex_ps _ ex_ps_t p hp q h
/-- the strings' objects and bytes -/
theorem ex_strings {args : Array Value} {s : State} {A : Nat → Prop} (hn : (Jvm.Cond.and given_1 narrow_1).before args s = true) (hA : ∀ a : Nat, a < s.heap.size → ¬ A a) : ∃ ad : Nat → Nat × Nat, ∀ (k : Nat) (q : String × Nat × String × List Int32), ex_sl[k]? = some q →
    (Term.string q.1 q.2.1).eval args s none [] s = some (.ref (ad k).1) ∧ va_O "java/lang/String" (ad k).1 A s s.heap ∧ va_OF "java/lang/String" "coder" "B" (.int 0) (ad k).1 A s s.heap ∧ va_OF "java/lang/String" "value" "[B" (.ref (ad k).2) (ad k).1 A s s.heap ∧ q.2.2.2.length < 2 ^ 31 ∧ va_T .byte (ad k).2 q.2.2.2.length (fun j => .int (q.2.2.2.getD j 0)) A s s.heap := by
  have hs := flat_of_before _ hn
  have h0 : ∀ k : Nat, ∃ p : Nat × Nat, ∀ (q : String × Nat × String × List Int32), ex_sl[k]? = some q →
    (Term.string q.1 q.2.1).eval args s none [] s = some (.ref p.1) ∧ va_O "java/lang/String" p.1 A s s.heap ∧ va_OF "java/lang/String" "coder" "B" (.int 0) p.1 A s s.heap ∧ va_OF "java/lang/String" "value" "[B" (.ref p.2) p.1 A s s.heap ∧ q.2.2.2.length < 2 ^ 31 ∧ va_T .byte p.2 q.2.2.2.length (fun j => .int (q.2.2.2.getD j 0)) A s s.heap := by
    intro k
    cases hk : ex_sl[k]? with
    | none => exact ⟨(0, 0), fun q h => by cases h⟩
    | some q0 =>
      have hw : ∀ w ∈ ex_sw q0, w.before args s = true := fun w hw => hs w (ex_sw_in hk w hw)
      have hlen : q0.2.2.2.length < 2 ^ 31 := Nat.lt_trans (Nat.blt_eq.mp (List.all_eq_true.mp ex_sl_small q0 (List.mem_of_getElem? hk))) (by decide)
      have w1 := hw _ List.mem_cons_self
      have w2 := hw _ (List.mem_cons_of_mem _ List.mem_cons_self)
      have w3 := hw _ (List.mem_cons_of_mem _ (List.mem_cons_of_mem _ List.mem_cons_self))
      have w4 := hw _ (List.mem_cons_of_mem _ (List.mem_cons_of_mem _ (List.mem_cons_of_mem _ List.mem_cons_self)))
      have w5 := fun (j : Nat) (hj : j < q0.2.2.2.length) => hw _ (List.mem_cons_of_mem _ (List.mem_cons_of_mem _ (List.mem_cons_of_mem _ (List.mem_cons_of_mem _ (List.mem_map.mpr ⟨j, List.mem_range.mpr hj, rfl⟩)))))
      obtain ⟨a, c, cA, kA, q1, q2, q3, q4, q5, q6, -⟩ := Cond.exactly_spec (args := args) (first := s) (o := none) (s := s) (idx := []) w1
      obtain ⟨t, ht, hT⟩ := va_Tof (f := fun j => .int (q0.2.2.2.getD j 0)) (A := A) hlen w3 (va_eqt w4) (fun j hj => va_eqt (w5 j hj)) hA
      refine ⟨(a, t), fun q h => ?_⟩
      cases h
      exact ⟨q1, ⟨cA, q3, q5, by rw [q6]; exact q2, hA a (Array.getElem?_eq_some_iff.mp q3).1⟩, vk_OFof q1 (va_eqt w2) hA, vk_OFof q1 ht hA, hlen, hT⟩
  exact Classical.axiomOfChoice h0
/-- the table of the String constants is the list of them -/
noncomputable def ex_strb : Bool := ex_strs.all (fun q => match ex_nth ex_sl (Nat.div q.2.2.1 2) with
  | some r => decide (q.1 = r.1) && Nat.beq q.2.1 r.2.1 && decide (q.2.2.2 = r.2.2.1) && Nat.beq q.2.2.1 (2 * (Nat.div q.2.2.1 2)) && Nat.blt q.2.2.1 146
  | none => false)
theorem ex_strb_t : ex_strb = true := by decide +kernel
noncomputable def ex_refb : Bool := (List.range 73).all (fun k => match ex_nth ex_sl k with | some r => ex_inT ([4034, 4053, 1041, 9148, 9149, 9150, 9151, 9152, 9153, 9154, 9155, 9156, 9157, 9158, 9159, 9160, 9161, 9162, 9163, 9164, 9165, 9166, 9167, 9168, 9169, 9170, 9171, 9172, 9173, 9174, 9175, 9176, 9177, 9178, 9179, 9180, 9181, 9182, 9183, 9184, 9185, 9186, 9187, 9188, 9189, 9190, 9191, 9192, 9193, 9194, 13036, 14109, 14110, 14111, 14112, 12229, 12029, 12230, 12235, 12236, 12237, 11101, 11111, 11234, 11235, 11236, 14118, 14212, 14213, 14219, 14220, 14221, 14222].getD k 0) (Jvm.Cond.stringRef r.1 r.2.1 r.2.2.1) | none => false)
theorem ex_refb_t : ex_refb = true := by decide +kernel
theorem ex_w_C : Jvm.Cond.laysStatic "java/lang/String" "COMPACT_STRINGS" "Z" ∈ lw_tbl := ex_inT_s (i := 1051) (by decide +kernel)
theorem ex_w_S : Jvm.Cond.laysStatic "jdk/internal/util/Preconditions" "SIOOBE_FORMATTER" "Ljava/util/function/BiFunction;" ∈ lw_tbl := ex_inT_s (i := 1067) (by decide +kernel)
theorem ex_w_iC : Jvm.Cond.initialized "java/lang/String" ∈ lw_tbl := ex_inT_s (i := 1003) (by decide +kernel)
theorem ex_w_iS : Jvm.Cond.initialized "jdk/internal/util/Preconditions" ∈ lw_tbl := ex_inT_s (i := 1005) (by decide +kernel)
theorem ex_w_O : Jvm.Cond.arrayOver (.object "java/lang/String") ∈ lw_tbl := ex_inT_s (i := 9147) (by decide +kernel)
theorem ex_w_a0 : Jvm.Cond.arrayClass .int ∈ lw_tbl := ex_inT_s (i := 1131) (by decide +kernel)
theorem ex_w_a1 : Jvm.Cond.arrayClass .byte ∈ lw_tbl := ex_inT_s (i := 1130) (by decide +kernel)
theorem ex_w_a2 : Jvm.Cond.arrayClass .boolean ∈ lw_tbl := ex_inT_s (i := 1204) (by decide +kernel)
theorem ex_w_a3 : Jvm.Cond.arrayClass .long ∈ lw_tbl := ex_inT_s (i := 11080) (by decide +kernel)
theorem ex_f_C : Jvm.Cond.eq (.static "java/lang/String" "COMPACT_STRINGS" "Z") (.int 1) ∈ flatC (Jvm.Cond.and given_1 narrow_1) := List.mem_of_getElem? (i := 4) (by decide +kernel)
theorem ex_f_S : Jvm.Cond.isRef (.static "jdk/internal/util/Preconditions" "SIOOBE_FORMATTER" "Ljava/util/function/BiFunction;") ∈ flatC (Jvm.Cond.and given_1 narrow_1) := List.mem_of_getElem? (i := 5) (by decide +kernel)
/-- the world at the start -/
theorem ex_start {s : State} {b L : Nat} {xs : Nat → Int32} (ht : ∀ w ∈ lw_tbl, w.before #[Value.ref b] s = true) (hn : (Jvm.Cond.and given_1 narrow_1).before #[Value.ref b] s = true) (hX : va_X b L xs s s.heap) (hbl : b < s.heap.size) (hL : L ≤ 6) : ∃ o : ex_P, o.2.2.2 = s.heap.size ∧ o.2.2.1 147 = b ∧ va_K o.1 ex_cl (ex_tys o) s ∧ ex_X (ex_g L xs) o s s.heap := by
  have hts : ∀ w ∈ ex_wall, w.before #[Value.ref b] s = true := fun w hw => ht w (List.mem_filter.mp hw).1
  -- classes
  have hD : ∀ ci : Nat, ∃ p : ClassId × (Nat → Nat), ∀ r, ex_cl[ci]? = some r → u_Kn s r.1 r.2.1 r.2.2 p.1 p.2 := by
    intro ci
    cases hc : ex_cl[ci]? with
    | none => exact ⟨(0, fun _ => 0), fun r h => by cases h⟩
    | some r =>
      obtain ⟨cC, iS, h⟩ := u_known (n := r.2.2) hts (ex_clsOk_p ci r hc).1 (ht _ (ex_able hc))
      refine ⟨(cC, iS), fun r' h' => ?_⟩
      cases h'
      exact h
  obtain ⟨D, hD⟩ := Classical.axiomOfChoice hD
  -- array classes
  obtain ⟨c0, k0, p0, f0, g0, e0⟩ := Cond.arrayClass_spec (ht _ ex_w_a0)
  obtain ⟨c1, k1, p1, f1, g1, e1⟩ := Cond.arrayClass_spec (ht _ ex_w_a1)
  obtain ⟨c2, k2, p2, f2, g2, e2⟩ := Cond.arrayClass_spec (ht _ ex_w_a2)
  obtain ⟨c3, k3, p3, f3, g3, e3⟩ := Cond.arrayClass_spec (ht _ ex_w_a3)
  obtain ⟨comp, c4, k4, i1, i2, i3, i4, i5⟩ := Cond.arrayOver_spec (ht _ ex_w_O)
  -- strings, statics
  have hA : ∀ a : Nat, a < s.heap.size → ¬ (s.heap.size ≤ a) := fun a h => Nat.not_le.mpr h
  obtain ⟨ad, had⟩ := ex_strings (A := fun q => s.heap.size ≤ q) hn hA
  have hs := flat_of_before _ hn
  have hC := va_Zof (A := fun q => s.heap.size ≤ q) (ht _ ex_w_C) (ht _ ex_w_iC) (va_eqi (hs _ ex_f_C)) hA
  have hS := va_Zqof (A := fun q => s.heap.size ≤ q) (ht _ ex_w_S) (ht _ ex_w_iS) (hs _ ex_f_S) hA
  have hz : ∃ z : Nat, va_Z "jdk/internal/util/Preconditions" "SIOOBE_FORMATTER" "Ljava/util/function/BiFunction;" (va_rf (match z with | 0 => none | a + 1 => some a)) (fun q => s.heap.size ≤ q) s s.heap := by
    rcases hS with h | ⟨t, h⟩
    · exact ⟨0, h⟩
    · exact ⟨t + 1, h⟩
  obtain ⟨z, hz⟩ := hz
  let xa : Nat → Nat := fun i => if i = 1000000 then z else if i = 147 then b else if i % 2 = 0 then (ad (i / 2)).1 else (ad (i / 2)).2
  let tA : Nat → ClassId := fun t => match t with
    | 0 => c0
    | 1 => c1
    | 2 => c2
    | 3 => c3
    | _ => c4
  have hx0 : ∀ k : Nat, k < 73 → xa (2 * k) = (ad k).1 := fun k hk => by
    show (if 2 * k = 1000000 then z else if 2 * k = 147 then b else if (2 * k) % 2 = 0 then (ad (2 * k / 2)).1 else (ad (2 * k / 2)).2) = _
    rw [if_neg (by omega), if_neg (by omega), if_pos (by omega), show 2 * k / 2 = k by omega]
  have hx1 : ∀ k : Nat, k < 73 → xa (2 * k + 1) = (ad k).2 := fun k hk => by
    show (if 2 * k + 1 = 1000000 then z else if 2 * k + 1 = 147 then b else if (2 * k + 1) % 2 = 0 then (ad ((2 * k + 1) / 2)).1 else (ad ((2 * k + 1) / 2)).2) = _
    rw [if_neg (by omega), if_neg (by omega), if_neg (by omega), show (2 * k + 1) / 2 = k by omega]
  have hxb : xa 147 = b := by
    show (if 147 = 1000000 then z else if 147 = 147 then b else _) = _
    rw [if_neg (by omega), if_pos rfl]
  have hxz : xa 1000000 = z := if_pos rfl
  refine ⟨((fun c => (D c).1, fun c => (D c).2), tA, xa, s.heap.size), rfl, hxb, ⟨fun c q hq => hD c q hq, fun k q hq => ?_⟩, ⟨fun i c hi hc => ?_, fun q hq => ?_, fun q hq => ?_, va_AO.of (ht _ ex_w_O)⟩⟩
  · match k, hq with
    | 0, hq =>
      have hq : some (c0, FieldType.int) = some q := hq
      cases hq
      exact ⟨fun n z => ⟨(fun k h => by cases h), k0, g0, p0, e0⟩, f0⟩
    | 1, hq =>
      have hq : some (c1, FieldType.byte) = some q := hq
      cases hq
      exact ⟨fun n z => ⟨(fun k h => by cases h), k1, g1, p1, e1⟩, f1⟩
    | 2, hq =>
      have hq : some (c2, FieldType.boolean) = some q := hq
      cases hq
      exact ⟨fun n z => ⟨(fun k h => by cases h), k2, g2, p2, e2⟩, f2⟩
    | 3, hq =>
      have hq : some (c3, FieldType.long) = some q := hq
      cases hq
      exact ⟨fun n z => ⟨(fun k h => by cases h), k3, g3, p3, e3⟩, f3⟩
    | 4, hq =>
      have hq : some (c4, FieldType.object "java/lang/String") = some q := hq
      cases hq
      exact ⟨fun n z => ⟨(fun k h => by cases h), k4, i3, comp, i4⟩, k4, comp, i3, i4, i1, i5⟩
    | n + 5, hq => exact absurd (List.getElem?_eq_some_iff.mp hq).1 (by show ¬ n + 5 < 5; omega)
  · have hi : i < 148 := hi
    have hc : ex_xtf L xs i = some c := hc
    unfold ex_xtf at hc
    by_cases hlt : i < 146
    · rw [show Nat.blt i 146 = true from Nat.blt_eq.mpr hlt] at hc
      simp only [cond_true] at hc
      rw [ex_nth_eq] at hc
      cases hk : ex_sl[Nat.div i 2]? with
      | none => rw [hk] at hc; cases hc
      | some q =>
        rw [hk] at hc
        simp only at hc
        obtain ⟨h1, h2, h3, h4, h5, h6⟩ := had _ q hk
        by_cases hp : i % 2 = 0
        · rw [show Nat.beq (Nat.mod i 2) 0 = true from ex_beq.mpr hp] at hc
          simp only [cond_true] at hc
          cases hc
          obtain ⟨k, rfl⟩ : ∃ k, i = 2 * k := ⟨i / 2, by omega⟩
          have hk2 : Nat.div (2 * k) 2 = k := by show 2 * k / 2 = k; omega
          rw [hk2] at h2 h3 h4
          refine ⟨rfl, ?_, fun j v hv => ?_⟩
          · show va_O _ (xa (2 * k)) _ _ _
            rw [hx0 k (by omega)]
            exact h2
          · show va_OF _ _ _ _ (xa (2 * k)) _ _ _
            rw [hx0 k (by omega)]
            match j, hv with
            | 0, hv =>
              have hv : some (Value.ref (2 * k + 1)) = some v := hv
              cases hv
              have e : ex_cv (ex_g L xs) ((fun c => (D c).1, fun c => (D c).2), tA, xa, s.heap.size) (.ref (2 * k + 1)) = .ref (ad k).2 := by
                show Value.ref (if 2 * k + 1 < 148 then xa (2 * k + 1) else _) = _
                rw [if_pos (by omega), hx1 k (by omega)]
              rw [e]
              exact h4
            | 1, hv =>
              have hv : some (Value.int 0) = some v := hv
              cases hv
              exact h3
            | n + 2, hv => exact absurd (List.getElem?_eq_some_iff.mp hv).1 (by show ¬ n + 2 < 2; omega)
        · have hb : Nat.beq (Nat.mod i 2) 0 = false := ex_nb hp
          rw [hb] at hc
          simp only [cond_false] at hc
          cases hc
          obtain ⟨k, rfl⟩ : ∃ k, i = 2 * k + 1 := ⟨i / 2, by omega⟩
          have hk2 : Nat.div (2 * k + 1) 2 = k := by show (2 * k + 1) / 2 = k; omega
          rw [hk2] at h6
          refine ⟨Or.inr rfl, h5, ?_⟩
          show va_T .byte (xa (2 * k + 1)) _ _ _ _ _
          rw [hx1 k (by omega)]
          exact h6
    · have hb : Nat.blt i 146 = false := by
        cases hb : Nat.blt i 146 with
        | false => rfl
        | true => exact absurd (Nat.blt_eq.mp hb) hlt
      rw [hb] at hc
      simp only [cond_false] at hc
      by_cases h7 : i = 147
      · subst h7
        have hc : some (Sum.inr (0, L, .inl xs)) = some c := hc
        cases hc
        refine ⟨Or.inl rfl, by omega, ?_⟩
        show va_T .int (xa 147) _ _ _ _ _
        rw [hxb]
        obtain ⟨scr, j1, j2, j3, j4, j5⟩ := hX
        exact ⟨scr, j1, j2, j3, by omega, by rw [j4], fun j hj => j5 j hj, hA b hbl⟩
      · rw [ex_nb h7] at hc
        cases hc
  · have h1 := List.all_eq_true.mp ex_strb_t q hq
    cases hk : ex_nth ex_sl (Nat.div q.2.2.1 2) with
    | none => rw [hk] at h1; cases h1
    | some r =>
      rw [hk] at h1
      simp only [Bool.and_eq_true] at h1
      obtain ⟨⟨⟨⟨a1, a2⟩, a3⟩, a4⟩, a5⟩ := h1
      obtain ⟨q1, q2, q3, q4⟩ := q
      have t1 : q1 = r.1 := of_decide_eq_true a1
      have t2 : q2 = r.2.1 := Nat.eq_of_beq_eq_true a2
      have t3 : q4 = r.2.2.1 := of_decide_eq_true a3
      have t4 : q3 = 2 * (q3 / 2) := Nat.eq_of_beq_eq_true a4
      have t5 : q3 < 146 := Nat.blt_eq.mp a5
      generalize hK : q3 / 2 = K at t4
      subst t4
      have hk : ex_nth ex_sl (2 * K / 2) = some r := hk
      rw [ex_nth_eq, show 2 * K / 2 = K by omega] at hk
      obtain ⟨h1, -⟩ := had K r hk
      have hw : Jvm.Cond.stringRef r.1 r.2.1 r.2.2.1 ∈ lw_tbl := by
        have h3 := List.all_eq_true.mp ex_refb_t K (List.mem_range.mpr (by omega))
        rw [ex_nth_eq, hk] at h3
        exact ex_inT_s h3
      subst t1 t2 t3
      show vk_R _ _ _ (if 2 * K < 148 then xa (2 * K) else _) s
      rw [if_pos (by omega), hx0 K (by omega)]
      exact vk_R.of (ht _ hw) h1
  · have hq : q ∈ ex_stats := hq
    unfold ex_stats at hq
    simp only [List.mem_cons, List.not_mem_nil, or_false] at hq
    rcases hq with rfl | rfl
    · exact hC
    · show va_Z _ _ _ (va_rf (match xa 1000000 with | 0 => none | a + 1 => some a)) _ _ _
      rw [hxz]
      exact hz
