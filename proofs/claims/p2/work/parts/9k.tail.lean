/-! ===== sections: the reference behind its dict ===== -/
/-- what was told first in this section becomes known, below i -/
def e_mt (n n' : w_M) (i k : Int) : Prop := if 1 ≤ k ∧ k < i ∧ n 454 k = 0 ∧ 0 ≤ n 464 k then n' 454 k = 1 ∧ n' 451 k = n 464 k ∧ n' 452 k = n 465 k ∧ n' 453 k = n 466 k else n' 454 k = n 454 k ∧ n' 451 k = n 451 k ∧ n' 452 k = n 452 k ∧ n' 453 k = n 453 k
def e_tf (n n' : w_M) : Prop := ∀ i j : Int, ¬ (i = 428 ∧ (j = 60 ∨ j = 61 ∨ j = 63 ∨ j = 64)) → ¬ (451 ≤ i ∧ i ≤ 454) → n' i j = n i j
section EC2
variable {d : Nat} {g : s_g} {m m' m2 n n' n1 n2 : w_M} {Q : Int → w_M → Prop} {W : Int → Int} {L p a b B v l4 pv al ww : Int}
theorem r_408 (h0 : ∀ j, n 454 j = 0 ∨ n 454 j ≠ 0) (hb : ∀ j, -128 ≤ n 464 j ∧ n 464 j < 128) (hal : n 428 60 = al) (hal2 : al ≤ 200) (hpv : pv < 40000) (hQ : ∀ n', (∀ i j : Int, ¬ (451 ≤ i ∧ i ≤ 454) → n' i j = n i j) → (∀ k, e_mt n n' al k) → Q (if pv < 0 then -1 else n 433 pv) n') : ∀ (k : Nat) (i : Int) (n1 : w_M), (i + k = al ∨ (al < i ∧ k = 0 ∧ i = 1)) → 1 ≤ i → (∀ i j : Int, ¬ (451 ≤ i ∧ i ≤ 454) → n1 i j = n i j) → (∀ x, e_mt n n1 i x) → xp_m_section_408 d pv i n1 Q := by
  intro k
  induction k with
  | zero =>
    intro i n1 hi i1 hf hm
    apply xr_m_section_408
    rw [hf 428 60 (by omega), hal, if_neg (by omega)]
    have fin := hQ n1 hf (fun x => by
      have := hm x
      unfold e_mt at this ⊢
      by_cases z : 1 ≤ x ∧ x < al ∧ n 454 x = 0 ∧ 0 ≤ n 464 x
      · rw [if_pos z]
        rw [if_pos (by omega)] at this
        exact this
      · rw [if_neg z]
        by_cases z2 : 1 ≤ x ∧ x < i ∧ n 454 x = 0 ∧ 0 ≤ n 464 x
        · exfalso
          omega
        · rw [if_neg z2] at this
          exact this)
    by_cases q : pv < 0
    · rw [if_pos q] at fin ⊢
      exact fin
    · rw [if_neg q] at fin ⊢
      refine ⟨by omega, ?_⟩
      rw [hf 433 pv (by omega)]
      exact fin
  | succ k ih =>
    intro i n1 hi i1 hf hm
    have mi := hm i
    unfold e_mt at mi
    rw [if_neg (by omega)] at mi
    apply xr_m_section_408
    rw [hf 428 60 (by omega), hal, if_pos (by omega), w_32_id (x := i + 1) (by omega) (by omega), mi.1, hf 464 i (by omega)]
    refine ⟨by omega, ?_⟩
    -- it stays
    have same : ¬ (n 454 i = 0 ∧ 0 ≤ n 464 i) → xp_m_section_408 d pv (i + 1) n1 Q := by
      intro z
      refine ih (i + 1) n1 (by omega) (by omega) hf (fun x => ?_)
      have := hm x
      unfold e_mt at this ⊢
      by_cases zx : x = i
      · subst zx
        rw [if_neg (by omega)] at this
        rw [if_neg (fun w => z ⟨w.2.2.1, w.2.2.2⟩)]
        exact this
      · by_cases z2 : 1 ≤ x ∧ x < i ∧ n 454 x = 0 ∧ 0 ≤ n 464 x
        · rw [if_pos z2] at this
          rw [if_pos (by omega)]
          exact this
        · rw [if_neg z2] at this
          rw [if_neg (by omega)]
          exact this
    by_cases q1 : n 454 i = 0
    · rw [if_pos q1]
      refine ⟨by omega, ?_⟩
      by_cases q2 : n 464 i < 0
      · rw [if_pos q2]
        exact same (by omega)
      · rw [if_neg q2]
        have hbi := hb i
        have e8 : w_8 (n 464 i) = n 464 i := w_8_id (by omega) (by omega)
        refine ⟨by omega, by omega, by omega, by omega, by omega, by omega, by omega, ?_⟩
        have v1 : (w_up n1 454 i 1) 464 i = n 464 i := by rw [w_up_ne (by decide)]; exact hf _ _ (by omega)
        rw [v1, e8]
        have v2 : (w_up (w_up n1 454 i 1) 451 i (n 464 i)) 465 i = n 465 i := by rw [w_up_ne (by decide), w_up_ne (by decide)]; exact hf _ _ (by omega)
        rw [v2]
        have v3 : (w_up (w_up (w_up n1 454 i 1) 451 i (n 464 i)) 452 i (n 465 i)) 466 i = n 466 i := by rw [w_up_ne (by decide), w_up_ne (by decide), w_up_ne (by decide)]; exact hf _ _ (by omega)
        rw [v3]
        refine ih (i + 1) _ (by omega) (by omega) (fun a b z => ?_) (fun x => ?_)
        · unfold w_up
          rw [if_neg (by omega), if_neg (by omega), if_neg (by omega), if_neg (by omega)]
          exact hf a b z
        · have := hm x
          unfold e_mt at this ⊢
          by_cases zx : x = i
          · subst zx
            rw [if_pos (by omega)]
            refine ⟨?_, ?_, ?_, ?_⟩
            · rw [w_up_ne (by decide), w_up_ne (by decide), w_up_ne (by decide), w_up_eq]
            · rw [w_up_ne (by decide), w_up_ne (by decide), w_up_eq]
            · rw [w_up_ne (by decide), w_up_eq]
            · rw [w_up_eq]
          · have nb : ∀ c : Int, (w_up (w_up (w_up (w_up n1 454 i 1) 451 i (n 464 i)) 452 i (n 465 i)) 453 i (n 466 i)) c x = n1 c x := by
              intro c
              unfold w_up
              rw [if_neg (by omega), if_neg (by omega), if_neg (by omega), if_neg (by omega)]
            rw [nb, nb, nb, nb]
            by_cases z2 : 1 ≤ x ∧ x < i ∧ n 454 x = 0 ∧ 0 ≤ n 464 x
            · rw [if_pos z2] at this
              rw [if_pos (by omega)]
              exact this
            · rw [if_neg z2] at this
              rw [if_neg (by omega)]
              exact this
    · rw [if_neg q1]
      exact same (fun w => q1 w.1)
theorem r_218 (h : s_st g m n) (hb : 0 ≤ b ∧ b < n 428 15) (h7 : n 432 b = 7) (h27 : n 428 27 = 0) (hj : 0 ≤ n 428 61 ∧ n 428 61 ≤ 9) (hall : n 428 60 ≤ 200)
    (H1 : ∀ v, e_tr g n b (n 428 75) = some v → ∀ n', e_tf n n' → n' 428 61 = n 428 61 + 1 → n' 428 60 = (if n 428 61 = 0 then z_wh g n b 32 (-1) else n 428 60) → (n 428 61 = 0 → n' 428 63 = (if l4 = 0 then 1 else 0) ∧ n' 428 64 = b) → (n 428 61 ≠ 0 → n' 428 63 = n 428 63 ∧ n' 428 64 = n 428 64) → (∀ k, e_mt n n' (if n 428 61 = 0 then z_wh g n b 32 (-1) else n 428 60) k) → Q v n')
    (H0 : e_tr g n b (n 428 75) = none → ∀ n' : w_M, (∀ i j : Int, ¬ (i = 428 ∧ (j = 27 ∨ j = 28)) → n' i j = n i j) → n' 428 27 ≠ 0 → Q (-1) n') : xp_m_section_218 (d + 8) B l4 b n Q := by
  refine w_W.nm (fun hn => ?_)
  have bd := h.1
  unfold s_bd at bd
  have nb : ∀ j, -128 ≤ n 464 j ∧ n 464 j < 128 := fun j => w_ar_r hn (a := 464) (by decide) s_464 j
  have no3 := h.fd (l := s_wd 33) hb h7
  unfold e_tr at H1 H0
  obtain ⟨E1, hE1⟩ : ∃ E1, E1 = s_fd n (s_wd 34) (g.2.1 b) := ⟨_, rfl⟩
  obtain ⟨E2, hE2⟩ : ∃ E2, E2 = s_fd n (s_wd 35) (g.2.1 b) := ⟨_, rfl⟩
  obtain ⟨S, hS⟩ : ∃ S, S = z_wh g n b 32 (-1) := ⟨_, rfl⟩
  obtain ⟨V, hV⟩ : ∃ V, V = s_fd n (s_wd 33) (g.2.1 b) := ⟨_, rfl⟩
  rw [← hE1, ← hE2, ← hS, ← hV] at H1 H0
  rw [← hV] at no3
  have fail : ∀ c : Int, c ≠ 0 → (if 0 ≤ E1 ∨ 0 ≤ E2 then none
  else if 200 < S ∨ S < 1 ∨ S ≤ n 428 75 then none
  else if V < 0 then some (-1)
  else if n 432 V = 2 ∧ 0 ≤ n 433 V then some (n 433 V) else none) = none → Q (-1) (m_fl n c B) := by
    intro c hc e
    exact H0 e _ (fun i j q => m_fl_o (by omega)) (m_fl_ne h27 hc)
  have f351 : ∀ c x y z : Int, c ≠ 0 → Q (-1) (m_fl n c B) → xc_m_fail (d + 8) c B n (fun r6 m6 => xp_m_section_351 (d + 8) x y z V m6 Q) := by
    intro c x y z hc e
    refine sp_m_fail ?_
    apply xr_m_section_351
    refine r_gd ?_
    have e27 : m_fl n c B 428 27 = c := (m_fl_v h27).1
    rw [e27, if_neg (show ¬ c = 0 from hc), if_pos rfl]
    exact e
  apply xr_m_section_218
  refine r_gd ?_
  rw [if_pos h27, if_neg (by decide)]
  refine r_rawEntry (d := d + 2) h t_encrypt hb h7 ?_
  rw [← hE1]
  by_cases q1 : E1 < 0
  · rw [if_pos q1]
    refine r_rawEntry (d := d + 2) h t_xrefstm hb h7 ?_
    rw [← hE2]
    by_cases q2 : E2 < 0
    · rw [if_pos q2]
      refine r_wholeAt (d := d) h t_size hb h7 ?_
      rw [← hS]
      refine r_rawEntry (d := d + 2) h t_prev hb h7 ?_
      rw [← hV]
      rw [if_neg (by omega)] at H1 H0 fail
      by_cases q3 : 200 < S
      · rw [if_pos q3]
        exact f351 5 _ _ _ (by decide) (fail 5 (by decide) (if_pos (Or.inl q3)))
      · rw [if_neg q3]
        by_cases q4 : S < 1
        · rw [if_pos q4]
          exact f351 3 _ _ _ (by decide) (fail 3 (by decide) (if_pos (Or.inr (Or.inl q4))))
        · rw [if_neg q4]
          by_cases q5 : S ≤ n 428 75
          · rw [if_neg (by omega)]
            exact f351 3 _ _ _ (by decide) (fail 3 (by decide) (if_pos (Or.inr (Or.inr q5))))
          · rw [if_pos (by omega)]
            rw [if_neg (by omega)] at H1 H0 fail
            -- all is well
            have fin : ∀ v, (if V < 0 then -1 else n 433 V) = v → (if V < 0 then some (-1) else if n 432 V = 2 ∧ 0 ≤ n 433 V then some (n 433 V) else none) = some v → xp_m_section_351 (d + 8) l4 b S V n Q := by
              intro v hv e
              apply xr_m_section_351
              refine r_gd ?_
              rw [if_pos h27, if_neg (by decide), w_32_id (x := n 428 61 + 1) (by omega) (by omega)]
              have key : ∀ (n3 : w_M) (al : Int), (∀ i j : Int, ¬ (i = 428 ∧ (j = 60 ∨ j = 61 ∨ j = 63 ∨ j = 64)) → n3 i j = n i j) → n3 428 60 = al → al ≤ 200 → (if n 428 61 = 0 then S else n 428 60) = al → n3 428 61 = n 428 61 + 1 → (n 428 61 = 0 → n3 428 63 = (if l4 = 0 then 1 else 0) ∧ n3 428 64 = b) → (n 428 61 ≠ 0 → n3 428 63 = n 428 63 ∧ n3 428 64 = n 428 64) → xp_m_section_408 (d + 8) V 1 n3 Q := by
                intro n3 al f3 e60 a200 eal e61 e63 e64
                refine r_408 (n := n3) (al := al) (fun j => by omega) (fun j => by rw [f3 _ _ (by omega)]; exact nb j) e60 a200 (by rcases no3 with w | w <;> omega) (fun n' fr mt => ?_) (al - 1).toNat 1 n3 (by omega) (by decide) (fun _ _ _ => rfl) (fun x => ?_)
                · rw [f3 433 V (by omega), hv]
                  refine H1 v e n' (fun i j z1 z2 => by rw [fr i j z2]; exact f3 i j z1) (by rw [fr _ _ (by omega)]; exact e61) (by rw [fr _ _ (by omega), e60]; exact eal.symm) (fun z => by rw [fr _ _ (by omega), fr _ _ (by omega)]; exact e63 z) (fun z => by rw [fr _ _ (by omega), fr _ _ (by omega)]; exact e64 z) (fun k => ?_)
                  rw [eal]
                  have := mt k
                  unfold e_mt at this ⊢
                  rw [f3 454 k (by omega), f3 464 k (by omega), f3 451 k (by omega), f3 452 k (by omega), f3 453 k (by omega), f3 465 k (by omega), f3 466 k (by omega)] at this
                  exact this
                · unfold e_mt
                  rw [if_neg (by omega)]
                  exact ⟨rfl, rfl, rfl, rfl⟩
              by_cases j0 : n 428 61 = 0
              · rw [if_pos j0]
                by_cases l0 : l4 = 0
                · rw [if_pos l0]
                  refine key _ S (fun i j z => by unfold w_up; rw [if_neg (by omega), if_neg (by omega), if_neg (by omega), if_neg (by omega)]) (by rw [w_up_nb (by decide), w_up_nb (by decide), w_up_nb (by decide), w_up_eq]) (by omega) (if_pos j0) (by rw [w_up_eq]) (fun _ => ⟨?_, ?_⟩) (fun z => absurd j0 z)
                  · rw [w_up_nb (by decide), w_up_nb (by decide), w_up_eq, if_pos l0]
                  · rw [w_up_nb (by decide), w_up_eq]
                · rw [if_neg l0]
                  refine key _ S (fun i j z => by unfold w_up; rw [if_neg (by omega), if_neg (by omega), if_neg (by omega), if_neg (by omega)]) (by rw [w_up_nb (by decide), w_up_nb (by decide), w_up_nb (by decide), w_up_eq]) (by omega) (if_pos j0) (by rw [w_up_eq]) (fun _ => ⟨?_, ?_⟩) (fun z => absurd j0 z)
                  · rw [w_up_nb (by decide), w_up_nb (by decide), w_up_eq, if_neg l0]
                  · rw [w_up_nb (by decide), w_up_eq]
              · rw [if_neg j0]
                exact key _ (n 428 60) (fun i j z => by unfold w_up; rw [if_neg (by omega)]) (by rw [w_up_nb (by decide)]) hall (if_neg j0) (by rw [w_up_eq]) (fun z => absurd z j0) (fun _ => ⟨by rw [w_up_nb (by decide)], by rw [w_up_nb (by decide)]⟩)
            by_cases q6 : V < 0
            · rw [if_pos q6]
              exact fin (-1) (if_pos q6) (if_pos q6)
            · rw [if_neg q6] at fail
              rw [if_neg q6]
              refine ⟨by rcases no3 with w | w <;> omega, ?_⟩
              by_cases q7 : n 432 V = 2
              · rw [if_pos q7]
                refine ⟨by rcases no3 with w | w <;> omega, ?_⟩
                by_cases q8 : n 433 V < 0
                · rw [if_pos q8]
                  exact f351 3 _ _ _ (by decide) (fail 3 (by decide) (if_neg (by omega)))
                · rw [if_neg q8]
                  exact fin (n 433 V) (if_neg q6) ((if_neg q6).trans (if_pos ⟨q7, by omega⟩))
              · rw [if_neg q7]
                exact f351 3 _ _ _ (by decide) (fail 3 (by decide) (if_neg (fun w => q7 w.1)))
    · rw [if_neg q2]
      refine sp_m_fail ?_
      exact fail 9 (by decide) (if_pos (Or.inr (by omega)))
  · rw [if_neg q1]
    refine sp_m_fail ?_
    exact fail 9 (by decide) (if_pos (Or.inl (by omega)))
/-- bytes of the file -/
def e_F (n : w_M) (W : Int → Int) (L : Int) : Prop := v_ok W L ∧ L ≤ 8000 ∧ n 428 3 = L ∧ ∀ i, 0 ≤ i → i < L → n 430 i % 256 = W i
theorem r_byteHere (h : e_F n W L) (hp : 0 ≤ p) (hQ : Q (W p) n) : xc_m_byteHere (d + 1) p n Q := by
  obtain ⟨⟨v1, v2, v3⟩, h2, h3, h4⟩ := h
  apply xr_m_byteHere
  rw [h3]
  by_cases q : p < L
  · rw [if_pos q, h4 p hp q]
    exact ⟨by omega, hQ⟩
  · rw [if_neg q]
    rw [v3 p (Or.inr (by omega))] at hQ
    exact hQ
theorem r_stand {l : List Int} (h : e_F n W L) (hs : t_s a l) (hp : 0 ≤ p ∧ p ≤ 100000) (h1 : (p + l.length ≤ L ∧ ∀ i : Nat, i < l.length → W (p + i) = l.getD i 0) → Q 1 n) (h0 : ¬ (p + l.length ≤ L ∧ ∀ i : Nat, i < l.length → W (p + i) = l.getD i 0) → Q 0 n) : xc_m_stand (d + 5) a p n Q := by
  refine w_C.nm (fun hn => ?_)
  have nb : ∀ j, -128 ≤ n 430 j ∧ n 430 j < 128 := fun j => w_ar_r hn (a := 430) (by decide) s_430 j
  obtain ⟨⟨v1, v2, v3⟩, h2, h3, h4⟩ := h
  have ok := hs.ok
  apply xr_m_stand
  refine ⟨hs.isS, ?_⟩
  refine sp_length (d := d + 2) hs ?_
  rw [h3, w_32_id (x := p + l.length) (by omega) (by omega)]
  have key : ∀ (k i : Nat) (f : Int), i + k = l.length → p + l.length ≤ L → (f = 0 ∨ f = 1) → (f = 1 ↔ ∀ j : Nat, j < i → W (p + j) = l.getD j 0) → xp_m_stand_22 (d + 4) a p f i n Q := by
    intro k
    induction k with
    | zero =>
      intro i f hi hl hf hf2
      apply xr_m_stand_22
      refine ⟨hs.isS, ?_⟩
      refine sp_length (d := d + 2) hs ?_
      rw [if_neg (by omega)]
      refine ⟨hf, ?_⟩
      rcases hf with y | y
      · rw [y]; exact h0 (fun w => by
          have := hf2.mpr (fun j hj => w.2 j (by omega))
          omega)
      · rw [y]; exact h1 ⟨hl, fun j hj => hf2.mp y j (by omega)⟩
    | succ k ih =>
      intro i f hi hl hf hf2
      apply xr_m_stand_22
      refine ⟨hs.isS, ?_⟩
      refine sp_length (d := d + 2) hs ?_
      rw [if_pos (by omega)]
      rcases hf with y | y
      · rw [if_pos y]
        refine ⟨Or.inl y, ?_⟩
        rw [y]
        exact h0 (fun w => by
          have := hf2.mpr (fun j hj => w.2 j (by omega))
          omega)
      · rw [if_neg (by omega), w_32_id (x := p + i) (by omega) (by omega), w_32_id (x := (i : Int) + 1) (by omega) (by omega)]
        refine ⟨by omega, hs.isS, ?_⟩
        refine sp_charAt hs (i := i) (by omega) ?_
        have hb := nb (p + i)
        have e := h4 (p + i) (by omega) (by omega)
        have hc : l.getD i 0 ∈ l := by
          rw [List.getD_eq_getElem?_getD, List.getElem?_eq_getElem (by omega)]
          exact List.getElem_mem _
        have hc2 := ok.2 _ hc
        have i1 : (i : Int) + 1 = ((i + 1 : Nat) : Int) := by omega
        rw [i1]
        by_cases q : n 430 (p + i) = l.getD i 0
        · rw [if_pos q]
          refine ih (i + 1) 1 (by omega) hl (Or.inr rfl) ⟨fun _ j hj => ?_, fun _ => rfl⟩
          by_cases z : j = i
          · rw [z]; omega
          · exact hf2.mp y j (by omega)
        · rw [if_neg q]
          refine ih (i + 1) 0 (by omega) hl (Or.inl rfl) ⟨fun w => by omega, fun w => ?_⟩
          have := w i (by omega)
          omega
  by_cases q : L < p + l.length
  · rw [if_pos q]
    apply xr_m_stand_22
    refine ⟨hs.isS, ?_⟩
    refine sp_length (d := d + 2) hs ?_
    have z := h0 (fun w => by omega)
    refine z_ite (fun _ => ?_) (fun _ => ⟨Or.inl rfl, z⟩)
    rw [if_pos rfl]
    exact ⟨Or.inl rfl, z⟩
  · rw [if_neg q]
    exact key l.length 0 1 (by omega) (by omega) (Or.inr rfl) ⟨fun _ j hj => absurd hj (Nat.not_lt_zero j), fun _ => rfl⟩
/-- a word of regular bytes -/
theorem e_gl : ∀ (j k : Nat) (p : Int), (∀ i : Nat, i < j → b_reg (W (p + i))) → ¬ b_reg (W (p + j)) → j ≤ k → g_len W k p = j := by
  intro j
  induction j with
  | zero =>
    intro k p _ h _
    have h : ¬ b_reg (W p) := by
      rw [show p + ((0 : Nat) : Int) = p by omega] at h
      exact h
    exact g_len_0 h k
  | succ j ih =>
    intro k p h1 h2 h3
    cases k with
    | zero => omega
    | succ k =>
      have h0 : b_reg (W p) := by
        have := h1 0 (by omega)
        rw [show p + ((0 : Nat) : Int) = p by omega] at this
        exact this
      have e1 : ∀ i : Nat, i < j → b_reg (W (p + 1 + i)) := by
        intro i hi
        have := h1 (i + 1) (by omega)
        rw [show p + ((i + 1 : Nat) : Int) = p + 1 + i by omega] at this
        exact this
      have e2 : ¬ b_reg (W (p + 1 + j)) := by
        rw [show p + 1 + (j : Int) = p + ((j + 1 : Nat) : Int) by omega]
        exact h2
      show (if b_reg (W p) then g_len W k (p + 1) + 1 else 0) = j + 1
      rw [if_pos h0, ih k (p + 1) e1 e2 (by omega)]
theorem g_len_end : ∀ (k : Nat) (p : Int), g_len W k p < k → ¬ b_reg (W (p + g_len W k p)) := by
  intro k
  induction k with
  | zero => intro p h; exact absurd h (Nat.not_lt_zero _)
  | succ k ih =>
    intro p h
    have e : g_len W (k + 1) p = if b_reg (W p) then g_len W k (p + 1) + 1 else 0 := rfl
    by_cases q : b_reg (W p)
    · rw [if_pos q] at e
      rw [e] at h ⊢
      have := ih (p + 1) (by omega)
      rw [show p + ((g_len W k (p + 1) + 1 : Nat) : Int) = p + 1 + (g_len W k (p + 1) : Int) by omega]
      exact this
    · rw [if_neg q] at e
      rw [e, show p + ((0 : Nat) : Int) = p by omega]
      exact q
def e_xref : List Int := [120, 114, 101, 102]
theorem t_cxref : t_s 26 e_xref := ⟨by decide, by decide, by decide, _, rfl⟩
theorem t_mxref : t_s 300 e_xref := ⟨by decide, by decide, by decide, _, rfl⟩
/-- just this word, told as the reference tells it -/
theorem e_xr (hok : v_ok W L) (hp : 0 ≤ p ∧ p ≤ L) : t_is W L p e_xref ↔ ((p + e_xref.length ≤ L ∧ ∀ i : Nat, i < e_xref.length → W (p + i) = e_xref.getD i 0) ∧ ¬ b_reg (W (p + 4))) := by
  have l4 : e_xref.length = 4 := rfl
  unfold t_is
  rw [l4]
  constructor
  · intro ⟨h1, h2⟩
    have le := g_len_le W (L - p).toNat p
    refine ⟨⟨by omega, h2⟩, ?_⟩
    by_cases q : g_len W (L - p).toNat p < (L - p).toNat
    · have := g_len_end (W := W) (L - p).toNat p q
      rw [h1] at this
      exact this
    · have : p + 4 = L := by omega
      rw [this, hok.2.2 L (Or.inr (Int.le_refl _))]
      decide
  · intro ⟨⟨h1, h2⟩, h3⟩
    refine ⟨e_gl 4 _ p (fun i hi => ?_) h3 (by omega), h2⟩
    rw [h2 i hi]
    have c : i = 0 ∨ i = 1 ∨ i = 2 ∨ i = 3 := by omega
    rcases c with rfl | rfl | rfl | rfl <;> decide
end EC2
