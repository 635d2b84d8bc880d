/-! ===== numbers, references, truths, null: the reference ===== -/
theorem g_len_0 {W : Int → Int} {p : Int} (h : ¬ b_reg (W p)) : ∀ k : Nat, g_len W k p = 0 := by
  intro k
  cases k with
  | zero => rfl
  | succ k => exact if_neg h
theorem t_is_reg {W : Int → Int} {L p : Int} {l : List Int} (h : t_is W L p l) (h0 : 0 < l.length) : b_reg (W p) := by
  by_cases z : b_reg (W p)
  · exact z
  · have := h.1
    rw [g_len_0 z] at this
    omega
theorem t_un_reg {W : Int → Int} {L p : Int} (h : t_un W L p) : b_reg (W p) := by
  by_cases z : b_reg (W p)
  · exact z
  · have := h.1
    rw [g_len_0 z] at this
    have e : g_kd (g_s W p 0) = -1 := rfl
    rw [e] at this
    exact absurd this (by decide)
theorem u_pl_st {W : Int → Int} {L p refs : Int} (h : g_kd (g_s W p (g_len W (L - p).toNat p)) ≠ -1) : (u_pl W L p refs).1 = 0 ∨ (u_pl W L p refs).1 = 5 := by
  unfold u_pl
  rw [if_neg h]
  split
  · exact Or.inr rfl
  · split
    · split
      · exact Or.inl rfl
      · exact Or.inr rfl
    · exact Or.inl rfl
theorem m_new_434 {n : w_M} {k a : Int} : m_new n k a 434 (n 428 15) = 0 := by
  unfold m_new
  rw [w_up_ne (by decide), w_up_ne (by decide), w_up_ne (by decide), w_up_ne (by decide), w_up_ne (by decide), w_up_eq]
theorem t_mnull : t_s 266 [110, 117, 108, 108] := ⟨by decide, by decide, by decide, _, rfl⟩
theorem t_mtrue : t_s 268 [116, 114, 117, 101] := ⟨by decide, by decide, by decide, _, rfl⟩
theorem t_mfalse : t_s 270 [102, 97, 108, 115, 101] := ⟨by decide, by decide, by decide, _, rfl⟩
theorem t_mR : t_s 342 [82] := ⟨by decide, by decide, by decide, _, rfl⟩
theorem t_is_ne {W : Int → Int} {L p : Int} {l l2 : List Int} (h : t_is W L p l) (h2 : t_is W L p l2) (h0 : 0 < l.length) (h02 : 0 < l2.length) (hn : l.getD 0 0 ≠ l2.getD 0 0) : False := hn ((h.2 0 h0).symm.trans (h2.2 0 h02))
theorem m_row_un {n : w_M} {W : Int → Int} {L p : Int} (h : m_row n W L p) (h1 : n 428 22 = 1) (h5 : n 428 25 = 0) : t_un W L p := by
  obtain ⟨s1, s2, s3⟩ := h
  have hk : g_kd (g_s W p (g_len W (L - p).toNat p)) ≠ -1 := fun z => by have := (s2 z).1; omega
  rcases s3 hk with x | ⟨x1, x2, x3⟩
  · have := x.1
    omega
  · by_cases z : g_kd (g_s W p (g_len W (L - p).toNat p)) = 2
    · refine ⟨z, fun y => ?_, x1⟩
      rw [if_pos y] at s1
      omega
    · rw [if_neg z] at x3
      omega
theorem m_row_un2 {n : w_M} {W : Int → Int} {L p : Int} (h : m_row n W L p) (un : t_un W L p) : n 428 22 = 1 ∧ n 428 25 = 0 ∧ n 428 24 = g_va (g_s W p (g_len W (L - p).toNat p)) (W p) := by
  obtain ⟨s1, s2, s3⟩ := h
  rcases s3 (by rw [un.1]; decide) with x | ⟨x1, x2, x3⟩
  · exact absurd x.2 un.2.2
  · rw [if_pos un.1] at x3
    rw [if_neg un.2.1] at s1
    exact ⟨x3, s1, x2⟩
section MP
variable {d : Nat} {n : w_M} {L p refs D : Int} {W : Int → Int} {Q : Int → w_M → Prop}
theorem m_ct_o {n : w_M} {b : Int} (h1 : b ≠ 29) (h2 : b ≠ 31) : m_ct n 0 428 b = n 428 b := by
  unfold m_ct
  rw [w_up_nb h2, w_up_nb h1]
theorem m_ct_v (hv : v_m n W L) : v_m (m_ct n 0) W L := (hv.up (by decide)).up (by decide)
theorem sp_m_plain (hv : v_m n W L) (hL : L ≤ 200000) (h2 : n 428 18 ≠ 440) (h7 : 0 ≤ n 428 17 ∧ n 428 17 + L ≤ 140000 + p) (h23 : n 428 23 = p) (h21 : n 428 21 = p + g_len W (L - p).toNat p) (hreg : b_reg (W p)) (hrow : m_row n W L p) (h27 : n 428 27 = 0) (h15 : 0 ≤ n 428 15 ∧ n 428 15 < 40000) (h29 : 0 ≤ n 428 29 ∧ n 428 29 ≤ 100000) (h31 : 0 ≤ n 428 31 ∧ n 428 31 ≤ 1000000000)
    (hb : ∀ c e k a b, u_pl W L p refs = (c, e, k, a, b) → c ≠ 0 → ∀ n', (n' = n ∨ m_ag (m_ct n 0) n') → Q (-1) (m_fl n' c p))
    (hf : ∀ e k a b, u_pl W L p refs = (0, e, k, a, b) → m_cf n → Q (-1) (m_fl (m_ct n 0) 5 p))
    (hg : ∀ e k a b, u_pl W L p refs = (0, e, k, a, b) → ¬ m_cf n → ∀ n', m_ag (m_ct n 0) n' → n' 428 21 = e → Q (n 428 15) (w_up (m_new n' k a) 434 (n 428 15) b)) : xc_m_object (d + 9) D refs n Q := by
  have hin := t_reg_in hv.1 hreg
  have hle := g_len_le W (L - p).toNat p
  obtain ⟨r1, r2, r3⟩ := hrow
  have hrow : m_row n W L p := ⟨r1, r2, r3⟩
  have htok : n 428 22 = 3 ∨ n 428 22 = 11 ∨ n 428 22 = 1 ∨ n 428 22 = 2 := by
    by_cases z : g_kd (g_s W p (g_len W (L - p).toNat p)) = -1
    · exact Or.inl (r2 z).1
    · rcases r3 z with y | y
      · exact Or.inr (Or.inl y.1)
      · rw [y.2.2]
        split
        · exact Or.inr (Or.inr (Or.inl rfl))
        · exact Or.inr (Or.inr (Or.inr rfl))
  have hcs : m_cs n = 0 := by
    unfold m_cs
    rw [if_neg (by omega)]
  have fl : ∀ {d2 : Nat} c e k a b, u_pl W L p refs = (c, e, k, a, b) → c ≠ 0 → ∀ n', (n' = n ∨ m_ag (m_ct n 0) n') → xc_m_fail (d2 + 1) c p n' (fun _ m1 => Q (-1) m1) := fun c e k a b y1 y2 n' t => sp_m_fail (Q := fun _ m1 => Q (-1) m1) (hb c e k a b y1 y2 n' t)
  have mk : ∀ {d2 : Nat} e k a, u_pl W L p refs = (0, e, k, a, 0) → ¬ m_cf n → ∀ n', m_ag (m_ct n 0) n' → n' 428 21 = e → xc_m_newNode (d2 + 1) k a n' (fun r m1 => Q r m1) := by
    intro d2 e k a y1 y2 n' t y3
    have e15 : n' 428 15 = n 428 15 := by rw [t _ _ (by omega) (by omega)]; exact m_ct_o (by decide) (by decide)
    refine sp_newNode (Q := fun r m1 => Q r m1) (by rw [e15]; exact h15) ?_
    rw [e15]
    have key := hg e k a 0 y1 y2 n' t y3
    rw [w_up_id (by rw [← e15]; exact m_new_434)] at key
    exact key
  have hvc := m_ct_v hv
  have c22 : m_ct n 0 428 22 = n 428 22 := m_ct_o (by decide) (by decide)
  have c25 : m_ct n 0 428 25 = n 428 25 := m_ct_o (by decide) (by decide)
  have c24 : m_ct n 0 428 24 = n 428 24 := m_ct_o (by decide) (by decide)
  have c26 : m_ct n 0 428 26 = n 428 26 := m_ct_o (by decide) (by decide)
  have c27 : m_ct n 0 428 27 = n 428 27 := m_ct_o (by decide) (by decide)
  have c21 : m_ct n 0 428 21 = p + g_len W (L - p).toNat p := (m_ct_o (by decide) (by decide)).trans h21
  have c23 : m_ct n 0 428 23 = p := (m_ct_o (by decide) (by decide)).trans h23
  have rowc : m_row (m_ct n 0) W L p := by
    unfold m_row
    rw [c22, c25, c24, c26]
    exact hrow
  -- counted, good
  have cnt : ∀ {R : Int → w_M → Prop}, (m_cf n → Q (-1) (m_fl (m_ct n 0) 5 p)) → (¬ m_cf n → R 1 (m_ct n 0)) → xc_m_counted (d + 8) n (fun r1 m1 => xc_m_good (d + 8) m1 (fun r2 m2 => if r2 = 0 then Q (-1) m2 else R r2 m2)) := by
    intro R y1 y2
    refine sp_counted (d := d + 6) (by omega) (by omega) (by omega) (fun z => ?_) (fun z => ?_)
    · rw [hcs, h23]
      refine sp_m_good ?_
      have eg : f_m_good (m_fl (m_ct n 0) 5 p) = 0 := by
        unfold f_m_good m_fl
        rw [c27, if_pos h27, w_up_nb (by decide), w_up_eq, if_neg (by decide)]
      rw [eg, if_pos rfl]
      exact y1 z
    · rw [hcs]
      refine sp_m_good ?_
      have eg : f_m_good (m_ct n 0) = 1 := by
        unfold f_m_good
        rw [c27, if_pos h27]
      rw [eg, if_neg (by decide)]
      exact y2 z
  apply xr_m_object
  by_cases q11 : n 428 22 = 11
  · rw [if_pos q11, h23]
    have hk : g_kd (g_s W p (g_len W (L - p).toNat p)) ≠ -1 := fun z => by have := (r2 z).1; omega
    have hby : g_by (g_s W p (g_len W (L - p).toNat p)) (W p) := by
      rcases r3 hk with y | y
      · exact y.2
      · have := y.2.2
        split at this <;> omega
    have eU : u_pl W L p refs = (5, 0, 0, 0, 0) := by
      unfold u_pl
      rw [if_neg hk, if_pos hby]
    exact fl _ _ _ _ _ eU (by decide) n (Or.inl rfl)
  · rw [if_neg q11, if_neg (by omega), if_neg (by omega), if_neg (by omega), if_neg (by omega)]
    apply xr_m_object_59
    rw [if_neg (by decide)]
    by_cases q3 : n 428 22 = 3
    · rw [if_pos q3]
      have hk : g_kd (g_s W p (g_len W (L - p).toNat p)) = -1 := by
        by_cases z : g_kd (g_s W p (g_len W (L - p).toNat p)) = -1
        · exact z
        · rcases r3 z with y | y
          · omega
          · have := y.2.2
            split at this <;> omega
      have go : ∀ e k a, u_pl W L p refs = (0, e, k, a, 0) → (xc_m_isWord (d + 8) 266 (m_ct n 0) (fun r7 m7 => if r7 = 0 then (xc_m_isWord (d + 8) 268 m7 (fun r8 m8 => if r8 = 0 then (¬ m_cf n → xc_m_newNode (d + 8) 1 0 m8 (fun r9 m9 => Q r9 m9)) else (¬ m_cf n → xc_m_newNode (d + 8) 1 1 m8 (fun r10 m10 => Q r10 m10)))) else (xc_m_isWord (d + 8) 268 m7 (fun r11 m11 => if r11 = 0 then (¬ m_cf n → xc_m_newNode (d + 8) 0 0 m11 (fun r12 m12 => Q r12 m12)) else (¬ m_cf n → xc_m_newNode (d + 8) 0 1 m11 (fun r13 m13 => Q r13 m13)))))) → xp_m_object_113 (d + 8) D refs n Q := by
        intro e k a y1 y3
        apply xr_m_object_113
        rw [if_neg (by omega), if_neg (by omega)]
        apply xr_m_object_148
        refine cnt (fun z => hf e k a 0 y1 z) (fun z => ?_)
        rw [c22, if_neg (by omega), if_neg (by omega), if_pos q3]
        refine w_C.more y3 (fun r7 m7 y4 => ?_)
        by_cases z7 : r7 = 0
        · rw [if_pos z7] at y4 ⊢
          refine w_C.more y4 (fun r8 m8 y5 => ?_)
          by_cases z8 : r8 = 0
          · rw [if_pos z8] at y5 ⊢
            exact y5 z
          · rw [if_neg z8] at y5 ⊢
            exact y5 z
        · rw [if_neg z7] at y4 ⊢
          refine w_C.more y4 (fun r8 m8 y5 => ?_)
          by_cases z8 : r8 = 0
          · rw [if_pos z8] at y5 ⊢
            exact y5 z
          · rw [if_neg z8] at y5 ⊢
            exact y5 z
      have isw : ∀ {a : Int} {l : List Int} {R : Int → w_M → Prop}, t_s a l → 0 < l.length → 65 ≤ l.getD 0 0 → (t_is W L p l → R 1 (m_ct n 0)) → (¬ t_is W L p l → R 0 (m_ct n 0)) → xc_m_isWord (d + 8) a (m_ct n 0) R := fun hs y0 y1 y2 y3 => sp_isWord (d := d + 3) hs y0 y1 hvc c23 hin.1 rowc y2 y3
      refine sp_isWord (d := d + 3) t_mnull (by decide) (by decide) hv h23 hin.1 hrow (fun w1 => ?_) (fun w1 => ?_)
      · rw [if_neg (by decide)]
        have n1 : ¬ t_is W L p [116, 114, 117, 101] := fun y => t_is_ne w1 y (by decide) (by decide) (by decide)
        have n2 : ¬ t_is W L p [102, 97, 108, 115, 101] := fun y => t_is_ne w1 y (by decide) (by decide) (by decide)
        have eU : u_pl W L p refs = (0, p + 4, 0, 0, 0) := by
          unfold u_pl
          rw [if_pos hk, if_neg n1, if_neg n2, if_pos w1]
        refine go _ _ _ eU (isw t_mnull (by decide) (by decide) (fun _ => ?_) (fun y => absurd w1 y))
        rw [if_neg (by decide)]
        refine isw t_mtrue (by decide) (by decide) (fun y => absurd y n1) (fun _ => ?_)
        rw [if_pos rfl]
        exact fun z => mk _ _ _ eU z _ m_ag.rf (by rw [c21, w1.1]; rfl)
      · rw [if_pos rfl]
        refine sp_isWord (d := d + 3) t_mtrue (by decide) (by decide) hv h23 hin.1 hrow (fun w2 => ?_) (fun w2 => ?_)
        · rw [if_neg (by decide)]
          have eU : u_pl W L p refs = (0, p + 4, 1, 1, 0) := by
            unfold u_pl
            rw [if_pos hk, if_pos w2]
          refine go _ _ _ eU (isw t_mnull (by decide) (by decide) (fun y => absurd y w1) (fun _ => ?_))
          rw [if_pos rfl]
          refine isw t_mtrue (by decide) (by decide) (fun _ => ?_) (fun y => absurd w2 y)
          rw [if_neg (by decide)]
          exact fun z => mk _ _ _ eU z _ m_ag.rf (by rw [c21, w2.1]; rfl)
        · rw [if_pos rfl]
          refine sp_isWord (d := d + 3) t_mfalse (by decide) (by decide) hv h23 hin.1 hrow (fun w3 => ?_) (fun w3 => ?_)
          · rw [if_neg (by decide)]
            have eU : u_pl W L p refs = (0, p + 5, 1, 0, 0) := by
              unfold u_pl
              rw [if_pos hk, if_neg w2, if_pos w3]
            refine go _ _ _ eU (isw t_mnull (by decide) (by decide) (fun y => absurd y w1) (fun _ => ?_))
            rw [if_pos rfl]
            refine isw t_mtrue (by decide) (by decide) (fun y => absurd y w2) (fun _ => ?_)
            rw [if_pos rfl]
            exact fun z => mk _ _ _ eU z _ m_ag.rf (by rw [c21, w3.1]; rfl)
          · rw [if_pos rfl, h23]
            have eU : u_pl W L p refs = (4, 0, 0, 0, 0) := by
              unfold u_pl
              rw [if_pos hk, if_neg w2, if_neg w3, if_neg w1]
            exact fl _ _ _ _ _ eU (by decide) n (Or.inl rfl)
    · rw [if_neg q3]
      have hk : g_kd (g_s W p (g_len W (L - p).toNat p)) ≠ -1 := fun z => q3 (r2 z).1
      have hst := u_pl_st (refs := refs) hk
      have full : m_cf n → Q (-1) (m_fl (m_ct n 0) 5 p) := by
        intro z
        obtain ⟨⟨c, e, k, a, b⟩, hU⟩ : ∃ x, u_pl W L p refs = x := ⟨_, rfl⟩
        rw [hU] at hst
        rcases hst with y | y
        · have y : c = 0 := y
          subst y
          exact hf e k a b hU z
        · have y : c = 5 := y
          subst y
          exact hb 5 e k a b hU (by decide) _ (Or.inr m_ag.rf)
      rcases r3 hk with y | ⟨y1, y2, y3⟩
      · exact absurd y.1 q11
      · apply xr_m_object_113
        rw [if_neg (by omega), if_neg (by omega)]
        apply xr_m_object_148
        refine cnt full (fun z => ?_)
        have num : ¬ (g_kd (g_s W p (g_len W (L - p).toNat p)) = 2 ∧ ¬ (W p = 43 ∨ W p = 45) ∧ refs ≠ 0 ∧ u_rf W L (p + g_len W (L - p).toNat p)) → ∀ {d2 : Nat} m', m_ag (m_ct n 0) m' → m' 428 21 = p + g_len W (L - p).toNat p → xc_m_newNode (d2 + 1) (g_kd (g_s W p (g_len W (L - p).toNat p))) (n 428 24) m' (fun r m1 => Q r m1) := by
          intro w d2 m' t s
          rw [y2]
          refine mk _ _ _ ?_ z m' t s
          unfold u_pl
          rw [if_neg hk, if_neg y1, if_neg w]
        rw [c22, c24, c25]
        by_cases k2 : g_kd (g_s W p (g_len W (L - p).toNat p)) = 2
        · rw [if_pos k2] at y3
          rw [if_pos y3]
          rw [k2] at num
          by_cases f0 : refs = 0
          · rw [if_pos f0]
            exact num (fun w => w.2.2.1 f0) _ m_ag.rf c21
          · rw [if_neg f0]
            by_cases sg : W p = 43 ∨ W p = 45
            · rw [if_pos sg] at r1
              rw [if_neg (by omega)]
              exact num (fun w => w.2.1 sg) _ m_ag.rf c21
            · rw [if_neg sg] at r1
              rw [if_pos r1]
              apply xr_m_wholeOrReference
              rw [c24, c23, c21]
              have f2 : m_ct n 0 428 18 ≠ 440 := by rw [m_ct_o (by decide) (by decide)]; exact h2
              have f7 : 0 ≤ m_ct n 0 428 17 ∧ m_ct n 0 428 17 + L ≤ 140000 + p := by rw [m_ct_o (by decide) (by decide)]; exact h7
              have nope : ¬ u_rf W L (p + g_len W (L - p).toNat p) → ∀ {v : Int} m', m_ag (m_ct n 0) m' → xp_m_wholeOrReference_65 (d + 7) (n 428 24) p (p + g_len W (L - p).toNat p) 0 v m' Q := by
                intro w v m' t
                apply xr_m_wholeOrReference_65
                rw [if_pos rfl]
                exact num (fun x => w x.2.2.2) _ (t.up (by decide)) w_up_eq
              refine sp_tok_any (d := d + 2) (p := p + g_len W (L - p).toNat p) ⟨hvc, hL, c21, by omega, by omega⟩ f2 ⟨f7.1, by omega⟩ rfl (fun n1 t1 b1 b2 b3 => ?_)
              by_cases rg : b_reg (W (k_w W (L - (p + g_len W (L - p).toNat p)).toNat false (p + g_len W (L - p).toNat p)))
              · obtain ⟨row3, s4⟩ := b2 rg
                by_cases un : t_un W L (k_w W (L - (p + g_len W (L - p).toNat p)).toNat false (p + g_len W (L - p).toNat p))
                · obtain ⟨x1, x2, x3⟩ := m_row_un2 row3 un
                  rw [if_pos x1, if_pos x2, x3]
                  have in3 := t_reg_in hv.1 rg
                  have le3 := g_len_le W (L - k_w W (L - (p + g_len W (L - p).toNat p)).toNat false (p + g_len W (L - p).toNat p)).toNat (k_w W (L - (p + g_len W (L - p).toNat p)).toNat false (p + g_len W (L - p).toNat p))
                  have e18 : n1 428 18 = m_ct n 0 428 18 := t1 _ _ (by omega) (by omega)
                  refine sp_tok_any (d := d + 2) ⟨hvc.ag f2 t1, hL, s4, by omega, by omega⟩ (by rw [e18]; exact f2) (by rw [t1.k17]; have kr := k_w_r W (L - (p + g_len W (L - p).toNat p)).toNat false (p + g_len W (L - p).toNat p); omega) rfl (fun n2 t2 g1 g2 g3 => ?_)
                  have t12 := t1.tr t2
                  have yes : u_rf W L (p + g_len W (L - p).toNat p) → n2 428 21 = u_re W L (p + g_len W (L - p).toNat p) → xp_m_wholeOrReference_65 (d + 7) (n 428 24) p (p + g_len W (L - p).toNat p) 1 (u_rg W L (p + g_len W (L - p).toNat p)) n2 Q := by
                    intro w e21
                    apply xr_m_wholeOrReference_65
                    rw [if_neg (by decide), y2]
                    have bad : ¬ (1 ≤ g_va (g_s W p (g_len W (L - p).toNat p)) (W p) ∧ g_va (g_s W p (g_len W (L - p).toNat p)) (W p) < 200 ∧ u_rg W L (p + g_len W (L - p).toNat p) ≤ 65535) → xc_m_fail (d + 6 + 1) 5 p n2 (fun _ m1 => Q (-1) m1) := by
                      intro y
                      refine fl 5 0 0 0 0 ?_ (by decide) n2 (Or.inr t12)
                      unfold u_pl
                      rw [if_neg hk, if_neg y1, if_pos ⟨k2, sg, f0, w⟩, if_neg y]
                    by_cases q5 : g_va (g_s W p (g_len W (L - p).toNat p)) (W p) < 1
                    · rw [if_pos q5]
                      exact bad (fun y => by omega)
                    · rw [if_neg q5]
                      by_cases q6 : g_va (g_s W p (g_len W (L - p).toNat p)) (W p) < 200
                      · rw [if_pos q6]
                        by_cases q7 : 65535 < u_rg W L (p + g_len W (L - p).toNat p)
                        · rw [if_pos q7]
                          exact bad (fun y => by omega)
                        · rw [if_neg q7]
                          have e15 : n2 428 15 = n 428 15 := by rw [t12 _ _ (by omega) (by omega)]; exact m_ct_o (by decide) (by decide)
                          refine sp_newNode (d := d + 6) (by rw [e15]; exact h15) ?_
                          rw [e15]
                          refine ⟨h15, ?_⟩
                          refine hg _ 8 _ _ ?_ z n2 t12 e21
                          unfold u_pl
                          rw [if_neg hk, if_neg y1, if_pos ⟨k2, sg, f0, w⟩, if_pos ⟨by omega, q6, by omega⟩]
                      · rw [if_neg q6]
                        exact bad (fun y => q6 y.2.1)
                  by_cases rg5 : b_reg (W (k_w W (L - (k_w W (L - (p + g_len W (L - p).toNat p)).toNat false (p + g_len W (L - p).toNat p) + g_len W (L - k_w W (L - (p + g_len W (L - p).toNat p)).toNat false (p + g_len W (L - p).toNat p)).toNat (k_w W (L - (p + g_len W (L - p).toNat p)).toNat false (p + g_len W (L - p).toNat p)))).toNat false (k_w W (L - (p + g_len W (L - p).toNat p)).toNat false (p + g_len W (L - p).toNat p) + g_len W (L - k_w W (L - (p + g_len W (L - p).toNat p)).toNat false (p + g_len W (L - p).toNat p)).toNat (k_w W (L - (p + g_len W (L - p).toNat p)).toNat false (p + g_len W (L - p).toNat p)))))
                  · obtain ⟨row5, e21⟩ := g2 rg5
                    have in5 := t_reg_in hv.1 rg5
                    refine sp_isWord (d := d + 2) t_mR (by decide) (by decide) ((hvc.ag f2 t1).ag (by rw [e18]; exact f2) t2) g1 in5.1 row5 (fun w => yes ⟨un, w⟩ ?_) (fun w => nope (fun x => w x.2) n2 t12)
                    rw [e21, w.1]
                    rfl
                  · exact sp_isWord_n (d := d + 6) (g3 rg5).2.2 (nope (fun x => rg5 (t_is_reg x.2 (by decide))) n2 t12)
                · have nr := nope (fun w => un w.1) (v := n1 428 24) n1 t1
                  by_cases a1 : n1 428 22 = 1
                  · rw [if_pos a1]
                    by_cases a2 : n1 428 25 = 0
                    · exact absurd (m_row_un row3 a1 a2) un
                    · rw [if_neg a2]
                      exact nr
                  · rw [if_neg a1]
                    exact nr
              · rw [if_neg (b3 rg).1]
                exact nope (fun w => rg (t_un_reg w.1)) n1 t1
        · rw [if_neg k2] at y3
          rw [if_neg (by omega), if_pos y3]
          have hk3 : g_kd (g_s W p (g_len W (L - p).toNat p)) = 3 := by have := g_kd_r (g_s W p (g_len W (L - p).toNat p)); omega
          rw [hk3] at num
          exact num (fun w => absurd w.1 (by decide)) _ m_ag.rf c21
end MP
