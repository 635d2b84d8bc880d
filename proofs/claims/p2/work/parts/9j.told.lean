/-! ===== sections: what was told, side by side; trailers ===== -/
def e_ok (e : e_E) : Prop := 0 ≤ e.1 ∧ e.1 < 200 ∧ 0 ≤ e.2.1 ∧ e.2.1 ≤ 2 ∧ 0 ≤ e.2.2.1 ∧ 0 ≤ e.2.2.2
/-- told alike: h as it stands in the reference -/
def e_al (c1 c2 c3 r1 r2 r3 : Int) : Prop := 0 ≤ r1 ∧ r1 ≤ 2 ∧ c1 = r1 + 1 ∧ c2 = min r2 2147483647 ∧ c3 = (if 2147483647 < r3 then -1 else r3) ∧ 0 ≤ r2 ∧ 0 ≤ r3
def e_SS (T0 Tc Tr : e_T) : Prop := Tc.2.2.2 = Tr.2.2.2 ∧ ∀ k : Int, 1 ≤ k → k < 200 → (T0.1 k ≠ 0 → Tc.1 k = T0.1 k ∧ Tc.2.1 k = T0.2.1 k ∧ Tc.2.2.1 k = T0.2.2.1 k) ∧
  (T0.1 k = 0 → (Tr.1 k < 0 ∧ Tc.1 k = 0) ∨ e_al (Tc.1 k) (Tc.2.1 k) (Tc.2.2.1 k) (Tr.1 k) (Tr.2.1 k) (Tr.2.2.1 k))
/-- what a trailer says -/
noncomputable def e_tr (g : s_g) (n : w_M) (b hi : Int) : Option Int :=
  if 0 ≤ s_fd n (s_wd 34) (g.2.1 b) ∨ 0 ≤ s_fd n (s_wd 35) (g.2.1 b) then none
  else if 200 < z_wh g n b 32 (-1) ∨ z_wh g n b 32 (-1) < 1 ∨ z_wh g n b 32 (-1) ≤ hi then none
  else if s_fd n (s_wd 33) (g.2.1 b) < 0 then some (-1)
  else if n 432 (s_fd n (s_wd 33) (g.2.1 b)) = 2 ∧ 0 ≤ n 433 (s_fd n (s_wd 33) (g.2.1 b)) then some (n 433 (s_fd n (s_wd 33) (g.2.1 b))) else none
theorem t_encrypt : t_s 302 (s_wd 34) := ⟨by decide, by decide, by decide, _, rfl⟩
theorem t_xrefstm : t_s 304 (s_wd 35) := ⟨by decide, by decide, by decide, _, rfl⟩
theorem t_prev : t_s 306 (s_wd 33) := ⟨by decide, by decide, by decide, _, rfl⟩
section EB
variable {d : Nat} {g : s_g} {m m' m2 n n' n2 : w_M} {Q : Int → w_M → Prop} {W : Int → Int} {L p a b B v : Int} {T0 Tc Tr : e_T} {e : e_E}
theorem e_SS.st (h : e_SS T0 Tc Tr) (he : e_ok e) : e_SS T0 (e_ct Tc e) (e_rt Tr e) := by
  obtain ⟨h0, h1⟩ := h
  obtain ⟨f, hh, w, t⟩ := e
  obtain ⟨o1, o2, o3, o4, o5, o6⟩ := he
  have o1 : 0 ≤ f := o1
  have o2 : f < 200 := o2
  have o3 : 0 ≤ hh := o3
  have o4 : hh ≤ 2 := o4
  have o5 : 0 ≤ w := o5
  have o6 : 0 ≤ t := o6
  by_cases c : 0 < f ∧ Tc.1 f = 0
  · have ec : e_ct Tc (f, hh, w, t) = (e_set Tc.1 f (hh + 1), e_set Tc.2.1 f (min w 2147483647), e_set Tc.2.2.1 f (if 2147483647 < t then -1 else t), max Tc.2.2.2 f) := if_pos c
    -- the reference was not told of it either
    have r0 : Tr.1 f < 0 := by
      obtain ⟨k1, k2⟩ := h1 f (by omega) o2
      by_cases z : T0.1 f = 0
      · rcases k2 z with y | y
        · exact y.1
        · have := y.1
          have := y.2.2.1
          omega
      · have := (k1 z).1
        omega
    have er : e_rt Tr (f, hh, w, t) = (e_set Tr.1 f hh, e_set Tr.2.1 f w, e_set Tr.2.2.1 f t, max Tr.2.2.2 f) := if_pos r0
    rw [ec, er]
    refine ⟨?_, fun k k0 k1 => ?_⟩
    · show max Tc.2.2.2 f = max Tr.2.2.2 f
      rw [h0]
    · by_cases z : k = f
      · subst z
        obtain ⟨k2, k3⟩ := h1 k k0 k1
        refine ⟨fun y => ?_, fun _ => Or.inr ?_⟩
        · have := (k2 y).1
          omega
        · show e_al (e_set _ k _ k) (e_set _ k _ k) (e_set _ k _ k) (e_set _ k _ k) (e_set _ k _ k) (e_set _ k _ k)
          unfold e_set
          rw [if_pos rfl, if_pos rfl, if_pos rfl, if_pos rfl, if_pos rfl, if_pos rfl]
          exact ⟨o3, o4, rfl, rfl, rfl, o5, o6⟩
      · obtain ⟨k2, k3⟩ := h1 k k0 k1
        show (T0.1 k ≠ 0 → e_set _ f _ k = T0.1 k ∧ e_set _ f _ k = T0.2.1 k ∧ e_set _ f _ k = T0.2.2.1 k) ∧ (T0.1 k = 0 → (e_set _ f _ k < 0 ∧ e_set _ f _ k = 0) ∨ e_al (e_set _ f _ k) (e_set _ f _ k) (e_set _ f _ k) (e_set _ f _ k) (e_set _ f _ k) (e_set _ f _ k))
        unfold e_set
        rw [if_neg z, if_neg z, if_neg z, if_neg z, if_neg z, if_neg z]
        exact ⟨k2, k3⟩
  · have ec : e_ct Tc (f, hh, w, t) = (Tc.1, Tc.2.1, Tc.2.2.1, max Tc.2.2.2 f) := if_neg c
    rw [ec]
    by_cases r0 : Tr.1 f < 0
    · have er : e_rt Tr (f, hh, w, t) = (e_set Tr.1 f hh, e_set Tr.2.1 f w, e_set Tr.2.2.1 f t, max Tr.2.2.2 f) := if_pos r0
      rw [er]
      refine ⟨by show max Tc.2.2.2 f = max Tr.2.2.2 f; rw [h0], fun k k0 k1 => ?_⟩
      obtain ⟨k2, k3⟩ := h1 k k0 k1
      by_cases z : k = f
      · subst z
        refine ⟨k2, fun y => ?_⟩
        rcases k3 y with x | x
        · exact absurd ⟨by omega, x.2⟩ c
        · have := x.1
          omega
      · show (T0.1 k ≠ 0 → _) ∧ (T0.1 k = 0 → (e_set _ f _ k < 0 ∧ _) ∨ e_al _ _ _ (e_set _ f _ k) (e_set _ f _ k) (e_set _ f _ k))
        unfold e_set
        rw [if_neg z, if_neg z, if_neg z]
        exact ⟨k2, k3⟩
    · have er : e_rt Tr (f, hh, w, t) = (Tr.1, Tr.2.1, Tr.2.2.1, max Tr.2.2.2 f) := if_neg r0
      rw [er]
      exact ⟨by show max Tc.2.2.2 f = max Tr.2.2.2 f; rw [h0], h1⟩
theorem e_SS.fold : ∀ (es : List e_E) (Tc Tr : e_T), e_SS T0 Tc Tr → (∀ e ∈ es, e_ok e) → e_SS T0 (es.foldl e_ct Tc) (es.foldl e_rt Tr) := by
  intro es
  induction es with
  | nil => intro Tc Tr h _; exact h
  | cons e es ih => intro Tc Tr h he; exact ih _ _ (h.st (he e (List.mem_cons_self ..))) (fun x hx => he x (List.mem_cons_of_mem _ hx))
/-- entries are right -/
theorem e_ens_ok : ∀ (k : Nat) (f p : Int) (es : List e_E) (q : Int), 0 ≤ f → f + k ≤ 200 → e_ens W k f p = some (es, q) → ∀ e ∈ es, e_ok e := by
  intro k
  induction k with
  | zero =>
    intro f p es q _ _ h e he
    have := (Prod.mk.inj (Option.some.inj h)).1
    rw [← this] at he
    cases he
  | succ k ih =>
    intro f p es q f0 f1 h e he
    by_cases z : e_is W p
    · rw [e_ens_s z] at h
      obtain ⟨r, hr, hr2⟩ := Option.map_eq_some_iff.mp h
      have e1 := (Prod.mk.inj hr2).1
      rw [← e1] at he
      rcases List.mem_cons.mp he with y | y
      · rw [y]
        have d1 := e_dn10 z.dig.1
        have d2 := e_dn5 z.dig.2
        refine ⟨f0, by show f < 200; omega, ?_, ?_, d1.1, d2.1⟩
        · show 0 ≤ (if W (p + 17) = 110 then (1 : Int) else 0)
          split <;> decide
        · show (if W (p + 17) = 110 then (1 : Int) else 0) ≤ 2
          split <;> decide
      · exact ih (f + 1) (p + 20) r.1 r.2 (by omega) (by omega) hr e y
    · rw [e_ens_n z] at h
      cases h
theorem e_tab_ok : ∀ (k : Nat) (any : Bool) (p : Int) (es : List e_E) (q : Int), e_tab W L k any p = some (es, q) → ∀ e ∈ es, e_ok e := by
  intro k
  induction k with
  | zero => intro any p es q h; cases h
  | succ k ih =>
    intro any p es q h e he
    by_cases z0 : any = true ∧ ¬ b_dig (W (e_nb W L p))
    · have e0 : e_tab W L (k + 1) any p = some ([], p) := if_pos z0
      rw [e0] at h
      have := (Prod.mk.inj (Option.some.inj h)).1
      rw [← this] at he
      cases he
    · by_cases z1 : t_rdg W L (e_nb W L p)
      · by_cases z2 : t_rdg W L (e_nb W L (e_e W L (e_nb W L p)))
        · rw [e_tab_s z1 z2] at h
          have v1 := e_v0 W L (e_nb W L p)
          have v2 := e_v0 W L (e_nb W L (e_e W L (e_nb W L p)))
          by_cases z3 : 200 < e_v W L (e_nb W L p) + e_v W L (e_nb W L (e_e W L (e_nb W L p)))
          · rw [if_pos z3] at h; cases h
          · rw [if_neg z3] at h
            by_cases z4 : e_s W (e_e W L (e_nb W L (e_e W L (e_nb W L p)))) < 0
            · rw [if_pos z4] at h; cases h
            · rw [if_neg z4] at h
              obtain ⟨r, hr, hr2⟩ := Option.bind_eq_some_iff.mp h
              obtain ⟨r2, hs, hs2⟩ := Option.map_eq_some_iff.mp hr2
              have e1 := (Prod.mk.inj hs2).1
              rw [← e1] at he
              rcases List.mem_append.mp he with y | y
              · exact e_ens_ok _ _ _ r.1 r.2 v1 (by omega) hr e y
              · exact ih true r.2 r2.1 r2.2 hs e y
        · rw [e_tab_s1 z1 z2] at h; cases h
      · rw [e_tab_n1 z0 z1] at h; cases h
theorem e_prs_ok {o : List Int} {w0 w1 w2 : Int} : ∀ (k : Nat) (f a : Int) (es : List e_E) (q : Int), 0 ≤ f → f + k ≤ 200 → e_prs o w0 w1 w2 k f a = some (es, q) → ∀ e ∈ es, e_ok e := by
  intro k
  induction k with
  | zero =>
    intro f a es q _ _ h e he
    have := (Prod.mk.inj (Option.some.inj h)).1
    rw [← this] at he
    cases he
  | succ k ih =>
    intro f a es q f0 f1 h e he
    have s : e_prs o w0 w1 w2 (k + 1) f a = (if (o.length : Int) < a + w0 + w1 + w2 then none else if 2 < (if w0 = 0 then 1 else e_num o a w0.toNat) then none
      else (e_prs o w0 w1 w2 k (f + 1) (a + w0 + w1 + w2)).map (fun r => ((f, (if w0 = 0 then 1 else e_num o a w0.toNat), e_num o (a + w0) w1.toNat, e_num o (a + w0 + w1) w2.toNat) :: r.1, r.2))) := rfl
    rw [s] at h
    obtain ⟨K, hK⟩ : ∃ K : Int, K = o.length := ⟨_, rfl⟩
    rw [← hK] at h
    by_cases z1 : K < a + w0 + w1 + w2
    · rw [if_pos z1] at h; cases h
    · rw [if_neg z1] at h
      by_cases z2 : 2 < (if w0 = 0 then 1 else e_num o a w0.toNat)
      · rw [if_pos z2] at h; cases h
      · rw [if_neg z2] at h
        obtain ⟨r, hr, hr2⟩ := Option.map_eq_some_iff.mp h
        have e1 := (Prod.mk.inj hr2).1
        rw [← e1] at he
        rcases List.mem_cons.mp he with y | y
        · rw [y]
          have n0 := (e_num_r o a w0.toNat).1
          have n1 := (e_num_r o (a + w0) w1.toNat).1
          have n2 := (e_num_r o (a + w0 + w1) w2.toNat).1
          refine ⟨f0, by show f < 200; omega, ?_, Int.not_lt.mp z2, n1, n2⟩
          show 0 ≤ (if w0 = 0 then 1 else e_num o a w0.toNat)
          split
          · decide
          · exact n0
        · exact ih (f + 1) _ r.1 r.2 (by omega) (by omega) hr e y
theorem e_pairs_ok {o : List Int} {w0 w1 w2 : Int} : ∀ (l : List (Int × Int)) (a : Int) (es : List e_E) (q : Int), (∀ x ∈ l, 0 ≤ x.1 ∧ 0 ≤ x.2) → e_pairs o w0 w1 w2 l a = some (es, q) → ∀ e ∈ es, e_ok e := by
  intro l
  induction l with
  | nil =>
    intro a es q _ h e he
    have := (Prod.mk.inj (Option.some.inj h)).1
    rw [← this] at he
    cases he
  | cons x l ih =>
    intro a es q hl h e he
    obtain ⟨f, c⟩ := x
    have x0 := hl (f, c) (List.mem_cons_self ..)
    have x1 : 0 ≤ f := x0.1
    have x2 : 0 ≤ c := x0.2
    have s : e_pairs o w0 w1 w2 ((f, c) :: l) a = if 200 < f + c then none else (e_prs o w0 w1 w2 c.toNat f a).bind (fun x => (e_pairs o w0 w1 w2 l x.2).map (fun y => (x.1 ++ y.1, y.2))) := rfl
    rw [s] at h
    by_cases z : 200 < f + c
    · rw [if_pos z] at h; cases h
    · rw [if_neg z] at h
      obtain ⟨r, hr, hr2⟩ := Option.bind_eq_some_iff.mp h
      obtain ⟨r2, hs, hs2⟩ := Option.map_eq_some_iff.mp hr2
      have e1 := (Prod.mk.inj hs2).1
      rw [← e1] at he
      rcases List.mem_append.mp he with y | y
      · exact e_prs_ok _ _ _ r.1 r.2 x1 (by omega) hr e y
      · exact ih r.2 r2.1 r2.2 (fun x hx => hl x (List.mem_cons_of_mem _ hx)) hs e y
theorem e_pl_ok {n : w_M} : ∀ (l : List Int), (∀ y ∈ l, 0 ≤ n 433 y) → ∀ x ∈ e_pl n l, 0 ≤ x.1 ∧ 0 ≤ x.2
  | [], _, x, hx => by cases hx
  | [_], _, x, hx => by cases hx
  | a :: b :: r, h, x, hx => by
    have hx : x ∈ (n 433 a, n 433 b) :: e_pl n r := hx
    rcases List.mem_cons.mp hx with y | y
    · rw [y]
      exact ⟨h a (List.mem_cons_self ..), h b (List.mem_cons_of_mem _ (List.mem_cons_self ..))⟩
    · exact e_pl_ok r (fun z hz => h z (List.mem_cons_of_mem _ (List.mem_cons_of_mem _ hz))) x y
theorem e_pp_ok (h : e_pv g n b) : ∀ x ∈ e_pp g n b, 0 ≤ x.1 ∧ 0 ≤ x.2 := by
  intro x hx
  unfold e_pp at hx
  rcases h with ⟨z1, z2⟩ | ⟨z1, z2, z3⟩
  · rw [if_pos z1] at hx
    rw [List.mem_singleton.mp hx]
    exact ⟨Int.le_refl _, z2⟩
  · rw [if_neg (by omega)] at hx
    exact e_pl_ok _ (fun y hy => (z3.2 y hy).2) x hx
-- the trailer in the class
theorem sp_readTrailer (h : s_st g m n) (hw : s_kw m) (hb : 0 ≤ b ∧ b < n 428 15) (h7 : n 432 b = 7) (H1 : ∀ v, e_tr g n b (m 391 11) = some v → Q v m) (H0 : e_tr g n b (m 391 11) = none → ∀ m' : w_M, (∀ i j : Int, ¬ (i = 376 ∧ (j = 6 ∨ j = 7)) → m' i j = m i j) → m' 376 6 ≠ 0 → Q (-1) m') : xc_se_readTrailer (d + 5) (g.1 b) B m Q := by
  have no1 := h.fd (l := s_wd 34) hb h7
  have no2 := h.fd (l := s_wd 35) hb h7
  have no3 := h.fd (l := s_wd 33) hb h7
  have up : ∀ {y : Int}, s_no n y → (s_up g.1 y < 0 ↔ y < 0) := by
    intro y hy
    rcases h.no hy with ⟨z1, z2⟩ | ⟨a1, a2, a3, a4, a5, a6, a7⟩ <;> omega
  unfold e_tr at H1 H0
  obtain ⟨E1, hE1⟩ : ∃ E1, E1 = s_fd n (s_wd 34) (g.2.1 b) := ⟨_, rfl⟩
  obtain ⟨E2, hE2⟩ : ∃ E2, E2 = s_fd n (s_wd 35) (g.2.1 b) := ⟨_, rfl⟩
  obtain ⟨S, hS⟩ : ∃ S, S = z_wh g n b 32 (-1) := ⟨_, rfl⟩
  obtain ⟨V, hV⟩ : ∃ V, V = s_fd n (s_wd 33) (g.2.1 b) := ⟨_, rfl⟩
  rw [← hE1, ← hE2, ← hS, ← hV] at H1 H0
  rw [← hE1] at no1
  rw [← hE2] at no2
  rw [← hV] at no3
  have fail : ∀ c : Int, c ≠ 0 → (if 0 ≤ E1 ∨ 0 ≤ E2 then none
  else if 200 < S ∨ S < 1 ∨ S ≤ m 391 11 then none
  else if V < 0 then some (-1)
  else if n 432 V = 2 ∧ 0 ≤ n 433 V then some (n 433 V) else none) = none → xc_ps_fail (d + 4) 376 c B m (fun r4 m4 => Q r4 m4) := by
    intro c hc e
    exact sp_fail1 (Or.inl rfl) (fun m' c' z => H0 e m' c' (z hc))
  apply xr_se_readTrailer
  refine sp_st_entry (d := d + 1) h hw (by decide) hb h7 ?_
  rw [← hE1]
  by_cases q1 : E1 < 0
  · rw [if_pos ((up no1).mpr q1)]
    refine sp_st_entry (d := d + 1) h hw (by decide) hb h7 ?_
    rw [← hE2]
    by_cases q2 : E2 < 0
    · rw [if_pos ((up no2).mpr q2)]
      refine sp_wholeEntry (d := d) h hw (by decide) hb h7 ?_
      rw [← hS]
      rw [if_neg (by omega)] at H1 H0 fail
      by_cases q3 : 200 < S
      · rw [if_pos (by omega)]
        exact fail 5 (by decide) (if_pos (Or.inl q3))
      · rw [if_neg (by omega)]
        refine sp_wholeEntry (d := d) h hw (by decide) hb h7 ?_
        by_cases q4 : S < 1
        · rw [if_pos (by omega)]
          exact fail 3 (by decide) (if_pos (Or.inr (Or.inl q4)))
        · rw [if_neg (by omega)]
          by_cases q5 : S ≤ m 391 11
          · rw [if_neg (by omega)]
            exact fail 3 (by decide) (if_pos (Or.inr (Or.inr q5)))
          · rw [if_pos (by omega)]
            rw [if_neg (by omega)] at H1 H0 fail
            have ez : z_wh g n b 33 (-1) = if V < 0 then -1 else if n 432 V = 2 then n 433 V else -1 := by rw [hV]; rfl
            rw [ez]
            by_cases q6 : V < 0
            · rw [if_pos q6] at H1 H0 fail ⊢
              rw [if_pos (by decide)]
              refine sp_st_entry (d := d + 1) h hw (by decide) hb h7 ?_
              rw [← hV, if_pos ((up no3).mpr q6)]
              exact H1 _ rfl
            · rw [if_neg q6] at H1 H0 fail ⊢
              by_cases q7 : n 432 V = 2 ∧ 0 ≤ n 433 V
              · rw [if_pos q7] at H1
                rw [if_pos q7.1, show max (-1) (n 433 V) = n 433 V by omega, if_neg (by omega)]
                exact H1 _ rfl
              · rw [if_pos (by split <;> omega)]
                refine sp_st_entry (d := d + 1) h hw (by decide) hb h7 ?_
                rw [← hV, if_neg (fun w => q6 ((up no3).mp w))]
                exact fail 3 (by decide) (if_neg q7)
    · rw [if_neg (fun w => q2 ((up no2).mp w))]
      exact fail 9 (by decide) (if_pos (Or.inr (by omega)))
  · rw [if_neg (fun w => q1 ((up no1).mp w))]
    exact fail 9 (by decide) (if_pos (Or.inl (by omega)))
end EB
