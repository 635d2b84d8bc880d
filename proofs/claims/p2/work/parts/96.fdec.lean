/-! ===== filters: the class decodes ===== -/
section FD
variable {d : Nat} {g : s_g} {m m' m2 n n' n2 : w_M} {Q : Int → w_M → Prop} {A A0 base base0 N N0 O b f p q k w y x i s c : Int} {l L o : List Int} {I : Int → Int}
theorem sp_fi_wholeOr_n (h7 : f_st_kindOf m x ≠ 7) (hQ : Q w m) : xc_fi_wholeOr (d + 4) x k w m Q := by
  apply xr_fi_wholeOr
  refine sp_st_entry_n h7 ?_
  rw [if_pos (by decide)]
  exact hQ
theorem sp_columns (h : s_st g m n) (hw : s_kw m) (hx : z_pa g n x q) (h3 : z_n3k g n y q) (hy : s_nk n y (s_wd 23)) (h1 : (z_co g n y q = 0 ∨ (1 ≤ z_co g n y q ∧ z_co g n y q ≤ 200)) → Q (z_co g n y q) m) : xc_fi_columns (d + 5) x m Q := by
  have bd := h.1
  unfold s_bd at bd
  have ef : z_fl n y ≠ 0 := by rw [z_fl_1 hy]; decide
  apply xr_fi_columns
  have none : f_st_kindOf m x ≠ 7 → (q < 0 ∨ n 432 q ≠ 7) → xc_fi_wholeOr (d + 4) x 25 1 m (fun r1 m1 => if r1 < 10 then (Q 0 m1) else (xc_fi_wholeOr (d + 4) x 26 1 m1 (fun r2 m2 => Q r2 m2))) := by
    intro z1 z2
    refine sp_fi_wholeOr_n z1 ?_
    rw [if_pos (by decide)]
    have e : z_co g n y q = 0 := if_pos (by rcases z2 with z | z; exact Or.inr (Or.inl z); exact Or.inr (Or.inr (Or.inl z)))
    rw [e] at h1
    exact h1 (Or.inl rfl)
  rcases hx with ⟨e, z⟩ | ⟨a1, a2, e⟩
  · refine none ?_ (by omega)
    rw [e, f_kind_v (by omega) (by omega), hw.1]
    decide
  · have no : s_no n q := Or.inr ⟨a1, a2⟩
    have kd := h.kd no
    have ek : s_kd n q = n 432 q := if_neg (by omega)
    rw [s_up_y a1, ek] at kd
    by_cases q7 : n 432 q = 7
    · have ip : z_ip2 g n q := by
        rcases h3 with w | w | w
        · omega
        · omega
        · exact w.2 hy
      unfold z_ip2 at ip
      rw [e]
      refine sp_fi_wholeOr h hw (by decide) ⟨a1, a2⟩ q7 (by decide) ?_
      by_cases c1 : z_wh g n q 25 1 < 10
      · rw [if_pos (by omega)]
        have e : z_co g n y q = 0 := if_pos (Or.inr (Or.inr (Or.inr c1)))
        rw [e] at h1
        exact h1 (Or.inl rfl)
      · rw [if_neg (by omega)]
        refine sp_fi_wholeOr h hw (by decide) ⟨a1, a2⟩ q7 (by decide) ?_
        have e : z_co g n y q = z_wh g n q 26 1 := if_neg (by omega)
        rw [e] at h1
        rw [show max (-1) (z_wh g n q 26 1) = z_wh g n q 26 1 by omega]
        exact h1 (by omega)
    · refine none ?_ (Or.inr q7)
      rw [e, kd]
      exact q7
theorem z_st_0 (h : z_hx I N.toNat 0 (-1) [] = some o) : z_st 0 c I N = some o := by simp [z_st, h]
theorem z_st_0n (h : z_hx I N.toNat 0 (-1) [] = none) : z_st 0 c I N = none := by simp [z_st, h]
theorem z_cp.cf (h : z_cp g n m f p) (h6 : m' 378 6 = m 378 6) (h9 : ∀ j, m' 389 j = m 389 j) (h0 : ∀ j, m' 390 j = m 390 j) : z_cp g n m' f p := by
  obtain ⟨a1, a2, a3⟩ := h
  exact ⟨by rw [h6]; exact a1, a2, fun k hk => by rw [h9, h0]; exact a3 k hk⟩
/-- the cells of names and parameters stay -/
def z_cq (m m' : w_M) : Prop := z_cf m m' ∧ m' 378 6 = m 378 6 ∧ (∀ j, m' 389 j = m 389 j) ∧ ∀ j, m' 390 j = m 390 j
theorem z_cq.rf : z_cq m m := ⟨z_cf.rf, rfl, fun _ => rfl, fun _ => rfl⟩
theorem z_cq.tr (h : z_cq m m') (h2 : z_cq m' m2) : z_cq m m2 := ⟨h.1.tr h2.1, h2.2.1.trans h.2.1, fun j => (h2.2.2.1 j).trans (h.2.2.1 j), fun j => (h2.2.2.2 j).trans (h.2.2.2 j)⟩
theorem z_fr.cq (h : z_fr O m m') (hO : O = 387 ∨ O = 388) : z_cq m m' := ⟨h.cf hO, h _ _ (by omega), fun j => h _ _ (by omega), fun j => h _ _ (by omega)⟩
theorem y_rn.cq (h : y_rn O m m') (hO : O = 387 ∨ O = 388) : z_cq m m' := ⟨h.zcf hO, h _ _ (by omega) (by omega) (by omega), fun j => h _ _ (by omega) (by omega) (by omega), fun j => h _ _ (by omega) (by omega) (by omega)⟩
theorem sp_decode_44 (hA : 0 ≤ N0) : ∀ (j : Nat) (i v : Int) , s_st g m n → s_kw m → z_cp g n m f p → i + j = (z_ns g n f).length → 0 ≤ i → (v = 0 ∨ v = 1) → (v = 1 ↔ ∀ k : Nat, (k : Int) < i → z_n3k g n ((z_ns g n f).getD k 0) (z_pm g n p k)) →
    (z_n3 g n f p → xp_fi_decode_84 (d + 5) A base N 1 m Q) → (¬ z_n3 g n f p → xp_fi_decode_84 (d + 5) A base N 0 m Q) → xp_fi_decode_44 (d + 5) A base N v i m Q := by
  intro j
  induction j with
  | zero =>
    intro i v h hw hc hi i0 hv hv2 H1 H0
    apply xr_fi_decode_44
    rw [hc.1, if_neg (by omega)]
    rcases hv with e | e
    · rw [e]
      refine H0 (fun z => ?_)
      have := hv2.mpr (fun k hk => z k (by omega))
      omega
    · rw [e]
      exact H1 (fun k hk => hv2.mp e k (by omega))
  | succ j ih =>
    intro i v h hw hc hi i0 hv hv2 H1 H0
    have l3 := hc.2.1
    have ei : ((i.toNat : Nat) : Int) = i := by omega
    apply xr_fi_decode_44
    rw [hc.1, if_pos (by omega)]
    rcases hv with e | e
    · rw [if_pos e, e]
      refine H0 (fun z => ?_)
      have := hv2.mpr (fun k hk => z k (by omega))
      omega
    · rw [if_neg (by omega)]
      refine ⟨by omega, by omega, ?_⟩
      obtain ⟨c1, c2⟩ := hc.2.2 i.toNat (by omega)
      rw [ei] at c1 c2
      rw [c1]
      refine sp_areRight h hw c2 (fun z => ?_) (fun z => ?_)
      · rw [w_32_id (x := i + 1) (by omega) (by omega)]
        refine ih (i + 1) 1 h hw hc (by omega) (by omega) (Or.inr rfl) ⟨fun _ k hk => ?_, fun _ => rfl⟩ H1 H0
        by_cases w : (k : Int) = i
        · rw [show k = i.toNat by omega]; exact z
        · exact hv2.mp e k (by omega)
      · rw [w_32_id (x := i + 1) (by omega) (by omega)]
        refine ih (i + 1) 0 h hw hc (by omega) (by omega) (Or.inl rfl) ⟨fun w => by omega, fun w => ?_⟩ H1 H0
        exact absurd (w i.toNat (by omega)) z
/-- bytes of N places -/
def z_ls (I : Int → Int) (N : Int) : List Int := (List.range N.toNat).map (fun i : Nat => w_8 (I (i : Int)))
theorem z_ls_len (h : 0 ≤ N) : ((z_ls I N).length : Int) = N := by
  unfold z_ls
  rw [List.length_map, List.length_range]
  omega
theorem z_ls_get {i : Nat} (h : i < (z_ls I N).length) : (z_ls I N).getD i 0 = w_8 (I i) := by
  unfold z_ls at h ⊢
  rw [List.length_map, List.length_range] at h
  rw [List.getD_eq_getElem?_getD, List.getElem?_map, List.getElem?_range h]
  rfl
theorem z_ls_by : y_by (z_ls I N) := fun i hi => by rw [z_ls_get hi, w_8_8]
theorem z_8 {x y : Int} (h : x % 256 = y) (h1 : -128 ≤ x) (h2 : x < 128) : w_8 y = x := by
  unfold w_8
  rw [Int.bmod_def]
  split <;> omega
theorem z_ar {a : Int} {N : Nat} (hn : w_nm (w_G0 sC) m) (h0 : 0 ≤ a) (h : w_isA 1 a) : ∀ j, -128 ≤ m a j ∧ m a j < 128 := by
  obtain ⟨k, hk⟩ := h
  exact fun j => w_ar_r hn (a := a) h0 (w_sh0_eq.trans hk) j
theorem sp_decode_272 (hA : 391 ≤ A0) (h0 : z_in m A0 base0 N0 I) (hf : m 378 6 = 0 → A = A0 ∧ N = N0) (hf2 : m 378 6 ≠ 0 → (A = 387 ∨ A = 388) ∧ z_in m A 0 N I)
    (H : ∀ R m', (R = 387 ∨ R = 388) → z_cf m m' → m' 378 8 = (z_ls I N).length → m' 378 7 = R → z_at m' R (z_ls I N) → Q 0 m') : xp_fi_decode_272 (d + 1) A0 base0 A N m Q := by
  refine w_W.nm (fun hn => ?_)
  apply xr_fi_decode_272
  by_cases q : m 378 6 = 0
  · obtain ⟨e1, e2⟩ := hf q
    obtain ⟨a1, a2, a3, a4, a5, a6, a7, a8, a9⟩ := h0
    have hb := z_ar (N := 0) hn a1 a2
    obtain ⟨o1, o2, o3, o4, o5, o6, o7⟩ := y_oO (Or.inl (rfl : (387 : Int) = 387))
    subst e2
    rw [if_pos q, if_neg (by omega)]
    refine ⟨⟨a2, o1, by omega, o4, a5, a4, by decide, by omega, by rw [o3]; omega⟩, ?_⟩
    refine H 387 _ (Or.inl rfl) (fun a b q1 q2 q3 q4 => ?_) (by rw [w_up_eq, z_ls_len a5]) (by rw [w_up_nb (by decide), w_up_eq]) (fun i hi => ?_)
    · unfold w_up w_cpy
      rw [if_neg (by omega), if_neg (by omega), if_neg (by omega)]
    · have hl := z_ls_len (I := I) a5
      rw [z_ls_get hi, w_up_ne (by decide), w_up_ne (by decide)]
      unfold w_cpy
      rw [if_pos ⟨rfl, by omega, by omega⟩]
      have e := a9 i (by omega) (by omega)
      rw [show (i : Int) - 0 + base0 = base0 + i by omega]
      exact (z_8 e (hb _).1 (hb _).2).symm
  · obtain ⟨e1, a1, a2, a3, a4, a5, a6, a7, a8, a9⟩ := hf2 q
    have hb := z_ar (N := 0) hn a1 a2
    rw [if_neg q]
    refine H A _ e1 (fun a b q1 q2 q3 q4 => ?_) (by rw [w_up_eq, z_ls_len a5]) (by rw [w_up_nb (by decide), w_up_eq]) (fun i hi => ?_)
    · unfold w_up
      rw [if_neg (by omega), if_neg (by omega)]
    · have hl := z_ls_len (I := I) a5
      rw [z_ls_get hi, w_up_ne (by omega), w_up_ne (by omega)]
      have e := a9 i (by omega) (by omega)
      rw [Int.zero_add] at e
      exact (z_8 e (hb _).1 (hb _).2).symm
theorem sp_decode_126 (hA0 : 391 ≤ A0) (hfn : s_no n f) : ∀ (suf pre : List Int) (A base N : Int) (I : Int → Int) (m : w_M), s_st g m n → s_kw m → z_cp g n m f p → z_n3 g n f p → z_ns g n f = pre ++ suf →
    ((pre = [] ∧ A = A0 ∧ base = base0 ∧ N = N0) ∨ (pre ≠ [] ∧ base = 0 ∧ A = if (pre.length : Int) % 2 = 1 then 387 else 388)) → z_in m A base N I → (pre = [] → z_in m A0 base0 N0 I) → (pre ≠ [] → ∃ I0, z_in m A0 base0 N0 I0) →
    (∀ o, z_run (z_do g n p pre.length suf) I N = some o → ∀ R m', (R = 387 ∨ R = 388) → z_cf m m' → m' 378 8 = o.length → m' 378 7 = R → z_at m' R o → y_by o → (o.length : Int) ≤ 8000 → Q 0 m') →
    (z_run (z_do g n p pre.length suf) I N = none → ∀ m', z_cf m m' → Q 8 m') → xp_fi_decode_126 (d + 6) A0 base0 A base N pre.length m Q := by
  intro suf
  induction suf with
  | nil =>
    intro pre A base N I m h hw hc h3 hl hA hin hi0 hi1 H1 H0
    have e : z_ns g n f = pre := by rw [hl, List.append_nil]
    have hc1 := hc.1
    rw [e] at hc1
    have lpre : (pre.length : Int) = 0 ↔ pre = [] := by rw [← List.length_eq_zero_iff]; omega
    apply xr_fi_decode_126
    rw [hc1, if_neg (by omega)]
    have H := H1 (z_ls I N) rfl
    have hl8 : ((z_ls I N).length : Int) ≤ 8000 := by
      have := z_ls_len (I := I) hin.2.2.2.2.1
      have := hin.2.2.2.2.2.1
      omega
    by_cases z : pre = []
    · rcases hA with ⟨_, y1, y2, y3⟩ | y
      · exact sp_decode_272 (A0 := A0) (base0 := base0) (N0 := N0) (I := I) hA0 (hi0 z) (fun _ => ⟨y1, y3⟩) (fun w => absurd (lpre.mpr z) (by omega)) (fun R m' r1 r2 r3 r4 r5 => H R m' r1 r2 r3 r4 r5 z_ls_by hl8)
      · exact absurd z y.1
    · rcases hA with y | ⟨_, y1, y2⟩
      · exact absurd y.1 z
      · have n0 : m 378 6 ≠ 0 := by rw [hc1]; exact fun w => z (lpre.mp w)
        refine w_W.nm (fun hn => ?_)
        apply xr_fi_decode_272
        rw [if_neg n0]
        rw [y1] at hin
        obtain ⟨a1, a2, a3, a4, a5, a6, a7, a8, a9⟩ := hin
        have hb := z_ar (N := 0) hn a1 a2
        have yA : A = 387 ∨ A = 388 := by rw [y2]; split; exact Or.inl rfl; exact Or.inr rfl
        refine H A _ yA (fun a b q1 q2 q3 q4 => ?_) (by rw [w_up_eq, z_ls_len a5]) (by rw [w_up_nb (by decide), w_up_eq]) (fun i hi => ?_) z_ls_by hl8
        · unfold w_up
          rw [if_neg (by omega), if_neg (by omega)]
        · have hl := z_ls_len (I := I) a5
          rw [z_ls_get hi, w_up_ne (by omega), w_up_ne (by omega)]
          have e := a9 i (by omega) (by omega)
          rw [Int.zero_add] at e
          exact (z_8 e (hb _).1 (hb _).2).symm
  | cons y suf ih =>
    intro pre A base N I m h hw hc h3 hl hA hin hi0 hi1 H1 H0
    have hlen2 : (z_ns g n f).length = pre.length + (suf.length + 1) := by rw [hl, List.length_append]; rfl
    have l3 := hc.2.1
    have hget : (z_ns g n f).getD pre.length 0 = y := by
      rw [hl, List.getD_eq_getElem?_getD, List.getElem?_append_right (Nat.le_refl _), Nat.sub_self]
      rfl
    obtain ⟨c1, c2⟩ := hc.2.2 pre.length (by omega)
    have k3 : z_n3k g n y (z_pm g n p pre.length) := by
      have := h3 pre.length (by omega)
      rw [hget] at this
      exact this
    rw [hget] at c1
    obtain ⟨O, hOd⟩ : ∃ O : Int, O = if (pre.length : Int) % 2 = 0 then 387 else 388 := ⟨_, rfl⟩
    have hO : O = 387 ∨ O = 388 := by rw [hOd]; split; exact Or.inl rfl; exact Or.inr rfl
    have hAO : A ≠ O := by
      rcases hA with ⟨_, y1, _⟩ | ⟨_, _, y2⟩
      · omega
      · rw [y2, hOd]
        by_cases z : (pre.length : Int) % 2 = 0
        · rw [if_neg (by omega), if_pos z]; decide
        · rw [if_pos (by omega), if_neg z]; decide
    have hA387 : A = A0 ∨ A = 387 ∨ A = 388 := by
      rcases hA with ⟨_, y1, _⟩ | ⟨_, _, y2⟩
      · exact Or.inl y1
      · rw [y2]; split; exact Or.inr (Or.inl rfl); exact Or.inr (Or.inr rfl)
    obtain ⟨a1, a2, a3, a4, a5, a6, a7, a8, a9⟩ := id hin
    have rdef : z_run (z_do g n p pre.length (y :: suf)) I N = (z_st (z_fl n y) (z_co g n y (z_pm g n p pre.length)) I N).bind (fun o => z_run (z_do g n p (pre.length + 1) suf) (z_I o) o.length) := rfl
    have len1 : ((pre ++ [y]).length : Int) = pre.length + 1 := t_len _ _
    have len1' : (pre ++ [y]).length = pre.length + 1 := by rw [List.length_append]; rfl
    -- the next one
    have next : ∀ (o : List Int) (m1 : w_M), z_st (z_fl n y) (z_co g n y (z_pm g n p pre.length)) I N = some o → z_cq m m1 → z_at m1 O o → (o.length : Int) ≤ 8000 → xp_fi_decode_126 (d + 6) A0 base0 O 0 o.length (w_32 ((pre.length : Int) + 1)) m1 Q := by
      intro o m1 e c at1 ol
      have hin1 := z_in_o hO at1 ol
      rw [w_32_id (by omega) (by omega), ← len1]
      have ne : pre ++ [y] ≠ [] := by simp
      refine ih (pre ++ [y]) O 0 o.length (z_I o) m1 (c.1.st h) (c.1.kw h hw) (hc.cf c.2.1 c.2.2.1 c.2.2.2) h3 (by rw [hl, List.append_assoc]; rfl) (Or.inr ⟨ne, rfl, ?_⟩) hin1 (fun z => absurd z ne) (fun _ => ?_) (fun o2 e2 R m' r1 r2 => H1 o2 ?_ R m' r1 (c.1.tr r2)) (fun e2 m' r2 => H0 ?_ m' (c.1.tr r2))
      · rw [hOd, len1]
        by_cases z : (pre.length : Int) % 2 = 0
        · rw [if_pos z, if_pos (by omega)]
        · rw [if_neg z, if_neg (by omega)]
      · have key : ∀ I0, z_in m A0 base0 N0 I0 → z_in m1 A0 base0 N0 I0 := fun I0 q => by
          obtain ⟨b1, b2, b3, b4, b5, b6, b7, b8, b9⟩ := q
          exact ⟨b1, b2, b3, b4, b5, b6, b7, b8, fun i q1 q2 => by rw [c.1 _ _ (by omega) (by omega) (by omega) (by omega)]; exact b9 i q1 q2⟩
        by_cases z : pre = []
        · exact ⟨I, key I (hi0 z)⟩
        · obtain ⟨I0, q⟩ := hi1 z
          exact ⟨I0, key I0 q⟩
      · rw [rdef, e, ← len1']
        exact e2
      · rw [rdef, e, ← len1']
        exact e2
    have fail : z_st (z_fl n y) (z_co g n y (z_pm g n p pre.length)) I N = none → ∀ m1, z_cq m m1 → Q 8 m1 := fun e m1 c => H0 (by rw [rdef, e]; rfl) m1 c.1
    -- behind the filter
    have h200 : ∀ (m1 : w_M), z_cq m m1 → (∀ o, (if z_fl n y = 0 then z_hx I N.toNat 0 (-1) [] else z_zo I N) = some o → y_by o → (o.length : Int) ≤ 8000 → z_at m1 O o → xp_fi_decode_200 (d + 6) A0 base0 pre.length O o.length m1 Q) := by
      intro m1 c o e hby ol at1
      have h1 := c.1.st h
      have hw1 := c.1.kw h hw
      apply xr_fi_decode_200
      rw [c.2.2.1, c1]
      refine ⟨by omega, ?_⟩
      by_cases q : s_nk n y (s_wd 23)
      · have ef := z_fl_1 q
        rw [ef] at e next fail ⊢
        rw [if_neg (by decide)] at e
        rw [if_neg (by decide), if_neg (by omega)]
        refine ⟨by omega, ?_⟩
        rw [c.2.2.2]
        refine sp_columns h1 hw1 c2 k3 q (fun cr => ?_)
        have est : z_st 1 (z_co g n y (z_pm g n p pre.length)) I N = if 0 < z_co g n y (z_pm g n p pre.length) then z_pr (z_I o) o.length (z_co g n y (z_pm g n p pre.length)) else some o := by
          unfold z_st
          rw [if_neg (by decide), e]
          show (if (1 : Int) ≠ 0 ∧ 0 < z_co g n y (z_pm g n p pre.length) then _ else _) = _
          by_cases z : 0 < z_co g n y (z_pm g n p pre.length)
          · rw [if_pos ⟨by decide, z⟩, if_pos z]
          · rw [if_neg (fun w => z w.2), if_neg z]
        obtain ⟨C, hC⟩ : ∃ C, C = z_co g n y (z_pm g n p pre.length) := ⟨_, rfl⟩
        rw [← hC] at cr est next fail ⊢
        by_cases z : 0 < C
        · rw [if_pos z] at est ⊢
          refine ⟨by omega, ?_⟩
          rw [c.2.2.2]
          refine sp_columns h1 hw1 c2 k3 q (fun _ => ?_)
          rw [← hC]
          refine sp_unpredict (d := d + 4) (N := o.length) (I := z_I o) hO (by omega) (by omega) ol (fun i q1 q2 => by rw [z_get at1 q1 q2]; rfl) (fun o2 e2 l2 by2 m2 f2 at2 => ?_) (fun e2 m2 f2 => ?_)
          · rw [if_neg (by omega)]
            exact next o2 m2 (est.trans e2) (c.tr (f2.cq hO)) at2 (by omega)
          · rw [if_pos (by decide)]
            exact fail (est.trans e2) m2 (c.tr (f2.cq hO))
        · rw [if_neg z] at est ⊢
          rw [if_neg (by omega)]
          exact next o m1 est c at1 ol
      · have ef := z_fl_0 q
        rw [ef] at e next fail ⊢
        rw [if_pos rfl] at e
        rw [if_pos rfl, if_neg (by omega)]
        have est : z_st 0 (z_co g n y (z_pm g n p pre.length)) I N = some o := z_st_0 e
        exact next o m1 est c at1 ol
    have h200n : ∀ (m1 : w_M), z_cq m m1 → (if z_fl n y = 0 then z_hx I N.toNat 0 (-1) [] else z_zo I N) = none → xp_fi_decode_200 (d + 6) A0 base0 pre.length O (-1) m1 Q := by
      intro m1 c e
      have est : z_st (z_fl n y) (z_co g n y (z_pm g n p pre.length)) I N = none := by
        unfold z_st
        rw [e]
        rfl
      apply xr_fi_decode_200
      refine ⟨by omega, ?_⟩
      split
      · rw [if_pos (by decide)]
        exact fail est m1 c
      · rw [if_pos (by decide), if_pos (by decide)]
        exact fail est m1 c
    refine w_W.nm (fun hn => ?_)
    apply xr_fi_decode_126
    rw [hc.1, if_pos (by omega), if_pos (by omega)]
    -- the run of the filter
    have run : (0 ≤ (pre.length : Int) ∧ (pre.length : Int) < 3) ∧ (if (m 389 pre.length) = 0 then (xc_fi_fromHex (d + 6) A base N O m (fun r1 m1 => xp_fi_decode_200 (d + 6) A0 base0 pre.length O r1 m1 Q)) else (xc_in_run (d + 6) A base N O m (fun r2 m2 => xp_fi_decode_200 (d + 6) A0 base0 pre.length O r2 m2 Q))) := by
      refine ⟨by omega, ?_⟩
      rw [c1]
      by_cases q : s_nk n y (s_wd 23)
      · have ef := z_fl_1 q
        rw [ef] at h200 h200n ⊢
        rw [if_neg (by decide)] at h200n ⊢
        refine sp_in_run (d := d + 1) hO (y_sts_nm hn) a1 (by omega) hAO a2 a3 a4 a5 a7 a8 a9 (fun o z hby m1 r e1 at1 => ?_) (fun z m1 r => ?_)
        · exact h200 m1 (r.cq hO) o (by rw [if_neg (by decide)]; exact z_zo_s z) hby (y_zl_l z) at1
        · exact h200n m1 (r.cq hO) (z_zo_n z)
      · have ef := z_fl_0 q
        rw [ef] at h200 h200n ⊢
        rw [if_pos rfl] at h200n ⊢
        refine sp_fromHex (d := d + 4) hO hAO hin (fun o z l2 hby m1 r at1 => ?_) (fun z m1 r => ?_)
        · exact h200 m1 (r.cq hO) o (by rw [if_pos rfl]; exact z) hby (by omega) at1
        · exact h200n m1 (r.cq hO) z
    by_cases z : (pre.length : Int) % 2 = 0
    · rw [if_pos z] at hOd ⊢
      rw [hOd] at run
      exact run
    · rw [if_neg z] at hOd ⊢
      rw [hOd] at run
      exact run
/-- N bytes of the row A, filters as the dict b says -/
theorem sp_fi_decode (h : s_st g m n) (hw : s_kw m) (hb : 0 ≤ b ∧ b < n 428 15) (h7 : n 432 b = 7) (hf : f = s_fd n (s_wd 21) (g.2.1 b)) (hp : p = s_fd n (s_wd 22) (g.2.1 b)) (hA : 391 ≤ A) (hin : z_in m A base N I)
    (H7 : ¬ z_ok g n f p → ∀ m', z_cf m m' → Q 7 m') (H8 : z_ok g n f p → z_run (z_do g n p 0 (z_ns g n f)) I N = none → ∀ m', z_cf m m' → Q 8 m')
    (H0 : ∀ o, z_ok g n f p → z_run (z_do g n p 0 (z_ns g n f)) I N = some o → ∀ R m', (R = 387 ∨ R = 388) → z_cf m m' → m' 378 8 = o.length → m' 378 7 = R → z_at m' R o → y_by o → (o.length : Int) ≤ 8000 → Q 0 m') : xc_fi_decode (d + 7) (g.1 b) A base N m Q := by
  have no1 := h.fd (l := s_wd 21) hb h7
  rw [← hf] at no1
  obtain ⟨a1, a2, a3, a4, a5, a6, a7, a8, a9⟩ := id hin
  apply xr_fi_decode
  obtain ⟨m0, hm0⟩ : ∃ m0, m0 = w_up (w_up (w_up m 378 6 0) 378 8 0) 378 7 387 := ⟨_, rfl⟩
  rw [← hm0]
  have c0 : z_cf m m0 := fun i j q1 q2 q3 q4 => by
    rw [hm0]
    unfold w_up
    rw [if_neg (by omega), if_neg (by omega), if_neg (by omega)]
  have z6 : m0 378 6 = 0 := by rw [hm0, w_up_nb (by decide), w_up_nb (by decide), w_up_eq]
  have no84 : ∀ m1, z_cf m0 m1 → ¬ z_ok g n f p → xp_fi_decode_84 (d + 6) A base N 0 m1 Q := by
    intro m1 c z
    apply xr_fi_decode_84
    rw [if_pos rfl]
    exact H7 z m1 (c0.tr c)
  refine sp_readNames (d := d + 1) (c0.st h) (c0.kw h hw) hb h7 hf z6 (fun n1 m1 c1 s1 => ?_) (fun n1 m1 c1 => ?_)
  · rw [if_neg (by decide)]
    have c01 := c0.tr c1
    refine sp_readParms (d := d + 2) (c01.st h) (c01.kw h hw) hb h7 hf hp n1 s1 (fun n2 m2 c2 s2 => ?_) (fun n2 m2 c2 => ?_)
    · rw [if_neg (by decide)]
      have c02 := c01.tr c2
      refine sp_decode_44 (d := d + 1) (N0 := 0) (f := f) (p := p) (by decide) (z_ns g n f).length 0 1 (c02.st h) (c02.kw h hw) s2 (by omega) (by decide) (Or.inr rfl) ⟨fun _ k hk => by omega, fun _ => rfl⟩ (fun n3 => ?_) (fun n3 => no84 m2 (c1.tr c2) (fun z => n3 z.2.2))
      have ok : z_ok g n f p := ⟨n1, n2, n3⟩
      have hin2 : z_in m2 A base N I := ⟨a1, a2, a3, a4, a5, a6, a7, a8, fun i q1 q2 => by rw [c02 _ _ (by omega) (by omega) (by omega) (by omega)]; exact a9 i q1 q2⟩
      apply xr_fi_decode_84
      rw [if_neg (by decide), if_neg (by omega), if_neg (by omega), w_32_id (x := w_ln A - base) (by omega) (by omega), if_neg (by omega)]
      refine ⟨a3, ?_⟩
      exact sp_decode_126 (d := d) (A0 := A) (base0 := base) (N0 := N) (p := p) hA no1 (z_ns g n f) [] A base N I m2 (c02.st h) (c02.kw h hw) s2 n3 rfl (Or.inl ⟨rfl, rfl, rfl, rfl⟩) hin2 (fun _ => hin2) (fun z => absurd rfl z) (fun o e R m' r1 r2 => H0 o ok e R m' r1 (c02.tr r2)) (fun e m' r2 => H8 ok e m' (c02.tr r2))
    · rw [if_pos rfl]
      have z : ¬ z_ok g n f p := fun z => n2 z.2.1
      apply xr_fi_decode_44
      split
      · rw [if_pos rfl]
        exact no84 m2 (c1.tr c2) z
      · exact no84 m2 (c1.tr c2) z
  · rw [if_pos rfl]
    have z : ¬ z_ok g n f p := fun z => n1 z.1
    apply xr_fi_decode_44
    split
    · rw [if_pos rfl]
      exact no84 m1 c1 z
    · exact no84 m1 c1 z
end FD
