/-! ===== the next symbol by codes: both sides ===== -/
/-- 1: none; else 0, the symbol, the bit behind it -/
def y_s (f : Int → Int) (n : Nat) (I : Int → Int) (M : Int) : Nat → Int → Int → Int → Int → Int × Int × Int
  | 0, _, _, _, _ => (1, 0, 0)
  | k + 1, c, s, l, x => if x < M then (if c + y_b I x - y_c f n l < s then (0, y_n f l (c + y_b I x - s) n, x + 1) else y_s f n I M k ((c + y_b I x) * 2) ((s + y_c f n l) * 2) (l + 1) (x + 1)) else (1, 0, 0)
section YS
variable {d : Nat} {m m' n : w_M} {Q : Int → w_M → Prop} {f I : Int → Int} {A base N x : Int}
theorem w_or_bit {c b : Int} (h0 : 0 ≤ c) (h1 : c ≤ 1000000) (hc : c % 2 = 0) (hb : 0 ≤ b ∧ b < 2) : w_or c b = c + b := by
  have e : c = w_32 (c / 2 * ((2 ^ 1 : Nat) : Int)) := by
    show c = w_32 (c / 2 * 2)
    rw [w_32_id (by omega) (by omega)]; omega
  rw [e, w_or_apart 1 (by decide) hb.1 (by show b < 2; omega)]
  show w_32 (c / 2 * 2 + b) = w_32 (c / 2 * 2) + b
  rw [w_32_id (by omega) (by omega), w_32_id (by omega) (by omega)]
/-- a symbol's place and the symbol -/
theorem y_sy.at {s : Int} {k : Nat} (h : y_sy m s f k k) {l r : Int} (hl : 1 ≤ l) (hr : 0 ≤ r ∧ r < y_c f k l) : m s (y_o (y_c f k) l.toNat + r) = y_n f l r k ∧ 0 ≤ y_n f l r k ∧ y_n f l r k < k := by
  obtain ⟨i, i1, i2, i3⟩ := y_n_ex hr.1 hr.2
  rw [y_n_v ⟨i2, i3⟩ i1]
  have := h i i1 (by omega)
  rw [i2, i3] at this
  exact ⟨this, by omega, by omega⟩
theorem y_at.rd {h : Nat} (hh : h + 1 ≤ 8) (hat : y_at m base I x (h + 1)) : m 379 13 % 2 = y_b I x ∧ y_at (w_up (w_up m 379 13 (w_ushr (m 379 13) 1)) 379 14 (w_32 (m 379 14 - 1))) base I (x + 1) h := by
  obtain ⟨a1, a2, a3, a4, a5⟩ := hat
  have hV := y_V_r I x (h + 1)
  have ph : ((2 ^ (h + 1) : Nat) : Int) ≤ 256 := by have := Nat.pow_le_pow_right (show 0 < 2 by decide) (show h + 1 ≤ 8 by omega); omega
  have e1 : y_V I x (1 + h) % 2 = y_V I x 1 := y_V_mod I x 1 h
  have e2 : y_V I x (1 + h) / 2 = y_V I (x + ((1 : Nat) : Int)) h := y_V_div I x 1 h
  have e3 : y_V I x 1 = y_b I x := by
    show 0 + y_b I (x + ((0 : Nat) : Int)) * ((2 ^ 0 : Nat) : Int) = _
    rw [show x + ((0 : Nat) : Int) = x by omega]
    show 0 + y_b I x * 1 = _
    omega
  rw [Nat.add_comm] at e1 e2
  have hu : w_ushr (m 379 13) 1 = y_V I (x + 1) h := by
    rw [a4, w_ushr_v (by decide) (by decide), show y_V I x (h + 1) % 4294967296 = y_V I x (h + 1) from Int.emod_eq_of_lt hV.1 (by omega)]
    show w_32 (y_V I x (h + 1) / 2) = _
    rw [e2]
    have := y_V_r I (x + ((1 : Nat) : Int)) h
    have p2 : ((2 ^ h : Nat) : Int) ≤ 256 := by have := Nat.pow_le_pow_right (show 0 < 2 by decide) (show h ≤ 8 by omega); omega
    rw [w_32_id (by omega) (by omega)]
    rfl
  refine ⟨by rw [a4, e1, e3], ?_, by omega, ?_, ?_, by omega⟩
  · rw [w_up_nb (by decide), w_up_nb (by decide), a1]; omega
  · rw [w_up_eq, a3, w_32_id (by omega) (by omega)]; omega
  · rw [w_up_nb (by decide), w_up_eq, hu]
theorem sp_in_symbol {c s : Int} {k : Nat} {h : Nat} (ha : y_ar c s k) (hf : ∀ i : Nat, i < k → 0 ≤ f i ∧ f i ≤ 15) (hc : y_cn m c f k) (hs : y_sy m s f k k) (hin : y_in m A base N I) (hat : y_at m base I x h) (hh : h ≤ 7) (hx : x + h ≤ 8 * N)
    (h1 : ∀ v x', y_s f k I (8 * N) 15 0 0 1 x = (0, v, x') → 0 ≤ v → v < k → x < x' → ∀ (m' : w_M) (h' : Nat), y_fr m m' → y_at m' base I x' h' → h' ≤ 7 → x' + h' ≤ 8 * N → Q v m')
    (h0 : ∀ v x', y_s f k I (8 * N) 15 0 0 1 x = (1, v, x') → ∀ m', y_fr m m' → 0 ≤ m' 379 14 → m' 379 14 ≤ 23 → Q (-1) m') : xc_in_symbol (d + 1) c s m Q := by
  obtain ⟨a1, a2, a3, a4, a5, a6, a7, a8, a9, a10⟩ := y_ar_c ha
  have cs : c ≠ 379 ∧ s ≠ 379 := by rcases ha with ⟨rfl, rfl, _⟩ | ⟨rfl, rfl, _⟩ <;> decide
  have hk : k ≤ 288 := by rcases ha with ⟨_, _, z⟩ | ⟨_, _, z⟩ <;> omega
  have loop : ∀ (j : Nat) (co fi l y : Int) (hb : Nat) (m' : w_M), 1 ≤ l → l + j = 16 → 0 ≤ fi → fi ≤ co → co % 2 = 0 → co < ((2 ^ l.toNat : Nat) : Int) → x + l = y + 1 → y_fr m m' → y_at m' base I y hb → hb ≤ 7 → y + hb ≤ 8 * N →
      (∀ v x', y_s f k I (8 * N) j co fi l y = (0, v, x') → 0 ≤ v → v < k → x < x' → ∀ (m' : w_M) (h' : Nat), y_fr m m' → y_at m' base I x' h' → h' ≤ 7 → x' + h' ≤ 8 * N → Q v m') →
      (∀ v x', y_s f k I (8 * N) j co fi l y = (1, v, x') → ∀ m', y_fr m m' → 0 ≤ m' 379 14 → m' 379 14 ≤ 23 → Q (-1) m') → xp_in_symbol_11 d c s co fi (y_o (y_c f k) l.toNat) l m' Q := by
    intro j
    induction j with
    | zero =>
      intro co fi l y hb m' q1 q2 q3 q4 q5 q6 q7 q8 q9 q10 q11 g1 g0
      apply xr_in_symbol_11
      rw [if_pos (by omega)]
      have := q9.2.2.1
      exact g0 0 0 rfl m' q8 (by omega) (by omega)
    | succ j ih =>
      intro co fi l y hb m' q1 q2 q3 q4 q5 q6 q7 q8 q9 q10 q11 g1 g0
      have pl16 : ((2 ^ l.toNat : Nat) : Int) ≤ 32768 := by have := Nat.pow_le_pow_right (show 0 < 2 by decide) (show l.toNat ≤ 15 by omega); omega
      have pl1 : ((2 ^ (l + 1).toNat : Nat) : Int) = 2 * ((2 ^ l.toNat : Nat) : Int) := by
        rw [show (l + 1).toNat = l.toNat + 1 by omega, Nat.pow_succ]; omega
      have pe : ((2 ^ l.toNat : Nat) : Int) % 2 = 0 := by rw [show l.toNat = (l.toNat - 1) + 1 by omega, Nat.pow_succ]; omega
      have hcl := y_c_r f l k
      have ho := y_o_s (C := y_c f k) q1
      have ho2 := y_o_le (C := y_c f k) (fun l => (y_c_r f l k).1) (a := l.toNat) (b := 16) (by omega) (by omega)
      have ho3 := y_o_0 (C := y_c f k) (fun l => (y_c_r f l k).1) l.toNat
      have ho4 := y_o_tot k hf
      have ho5 := (y_c_r f 0 k).1
      rw [show ((l.toNat : Nat) : Int) = l by omega] at ho2
      have es : y_s f k I (8 * N) (j + 1) co fi l y = if y < 8 * N then (if co + y_b I y - y_c f k l < fi then (0, y_n f l (co + y_b I y - fi) k, y + 1) else y_s f k I (8 * N) j ((co + y_b I y) * 2) ((fi + y_c f k l) * 2) (l + 1) (y + 1)) else (1, 0, 0) := rfl
      rw [es] at g1 g0
      have hbit := y_b_r I y
      -- one bit is at hand
      have go : ∀ (hb' : Nat) (m2 : w_M), y < 8 * N → y_fr m m2 → y_at m2 base I y (hb' + 1) → hb' ≤ 7 → y + 1 + hb' ≤ 8 * N → xp_in_symbol_90 d c s co fi (y_o (y_c f k) l.toNat) l m2 Q := by
        intro hb' m2 yM f1 at2 hb7 hyM
        rw [if_pos yM] at g1 g0
        obtain ⟨e1, e2⟩ := y_at.rd (by omega) at2
        have f2 : y_fr m (w_up (w_up m2 379 13 (w_ushr (m2 379 13) 1)) 379 14 (w_32 (m2 379 14 - 1))) := by
          refine f1.tr (fun i p q => ?_)
          unfold w_up
          rw [if_neg (by omega), if_neg (by omega)]
        obtain ⟨m3, hm3⟩ : ∃ m3, m3 = w_up (w_up m2 379 13 (w_ushr (m2 379 13) 1)) 379 14 (w_32 (m2 379 14 - 1)) := ⟨_, rfl⟩
        apply xr_in_symbol_90
        rw [← hm3] at e2 f2 ⊢
        have ec : m3 c l = y_c f k l := by rw [f2 _ _ (by omega)]; exact hc l (by omega) (by omega)
        rw [e1, w_or_bit (by omega) (by omega) q5 hbit, ec]
        refine ⟨a2, by omega, ?_⟩
        rw [w_32_id (x := co + y_b I y - y_c f k l) (by omega) (by omega), w_32_id (x := y_o (y_c f k) l.toNat + (co + y_b I y)) (by omega) (by omega), w_32_id (x := y_o (y_c f k) l.toNat + (co + y_b I y) - fi) (by omega) (by omega)]
        by_cases z : co + y_b I y - y_c f k l < fi
        · rw [if_pos z, if_neg (by omega)]
          rw [if_pos z] at g1
          refine ⟨a6, ?_⟩
          rw [if_pos (by omega)]
          refine ⟨a7, by omega, ?_⟩
          have sm : y_sy m3 s f k k := fun i i1 i2 => by rw [f2 _ _ (by omega)]; exact hs i i1 i2
          obtain ⟨v1, v2, v3⟩ := sm.at q1 (r := co + y_b I y - fi) ⟨by omega, by omega⟩
          rw [show y_o (y_c f k) l.toNat + (co + y_b I y) - fi = y_o (y_c f k) l.toNat + (co + y_b I y - fi) by omega, v1]
          exact g1 _ _ rfl v2 v3 (by omega) m3 hb' f2 e2 hb7 (by omega)
        · rw [if_neg z]
          rw [if_neg z] at g1 g0
          rw [w_32_id (x := (co + y_b I y) * 2) (by omega) (by omega), w_32_id (x := fi + y_c f k l) (by omega) (by omega), w_32_id (x := (fi + y_c f k l) * 2) (by omega) (by omega), w_32_id (x := y_o (y_c f k) l.toNat + y_c f k l) (by omega) (by omega), w_32_id (x := l + 1) (by omega) (by omega), ← ho]
          exact ih _ _ (l + 1) (y + 1) hb' m3 (by omega) (by omega) (by omega) (by omega) (by omega) (by omega) (by omega) f2 e2 hb7 (by omega) g1 g0
      apply xr_in_symbol_11
      rw [if_neg (by omega)]
      have hin' := hin.fr q8
      obtain ⟨i1, i2, i3, i4, i5, i6, i7, i8, i9, j1, j2⟩ := hin'
      have q9' := q9
      obtain ⟨b1, b2, b3, b4, b5⟩ := q9
      by_cases z : m' 379 14 = 0
      · rw [if_pos z, if_neg (by omega)]
        have hb0 : hb = 0 := by omega
        subst hb0
        by_cases w : m' 379 7 < m' 379 8
        · rw [if_pos w, i9]
          refine ⟨i1, i4, ?_⟩
          rw [if_pos (by omega)]
          refine ⟨i1, i3, by omega, ?_⟩
          have eb : m' A (m' 379 7) % 256 = I (y / 8) := by
            rw [b1, show base + (y + ((0 : Nat) : Int)) / 8 = base + y / 8 by omega]
            exact j2 _ (by omega) (by omega)
          have rI : 0 ≤ I (y / 8) ∧ I (y / 8) < 256 := by rw [← eb]; omega
          rw [eb, w_32_id (x := m' 379 7 + 1) (by omega) (by omega)]
          refine go 7 _ (by omega) (q8.tr (fun i p q => ?_)) ⟨?_, by omega, ?_, ?_, b5⟩ (by decide) (by omega)
          · unfold w_up
            rw [if_neg (by omega), if_neg (by omega), if_neg (by omega)]
          · rw [w_up_eq]; omega
          · rw [w_up_nb (by decide), w_up_eq]; rfl
          · rw [w_up_nb (by decide), w_up_nb (by decide), w_up_eq]
            have := y_V_byte (I := I) (p := y / 8) rI.1 rI.2
            rw [show 8 * (y / 8) = y by omega] at this
            exact this.symm
        · rw [if_neg w]
          rw [if_neg (by omega)] at g0
          exact g0 0 0 rfl m' q8 (by omega) (by omega)
      · rw [if_neg z]
        obtain ⟨hb', e⟩ : ∃ hb', hb = hb' + 1 := ⟨hb - 1, by omega⟩
        subst e
        exact go hb' m' (by omega) q8 q9' (by omega) (by omega)
  apply xr_in_symbol
  exact loop 15 0 0 1 x h m (by decide) (by decide) (by decide) (by decide) (by decide) (by decide) (by omega) y_fr.rf hat hh hx h1 h0
/-- whatever it holds -/
theorem sp_in_symbol_any {c s : Int} {k : Nat} (ha : y_ar c s k) (hin : y_in m A base N I) (h0 : 0 ≤ m 379 14) (h1 : m 379 14 ≤ 23) (hQ : ∀ r m', y_fr m m' → 0 ≤ m' 379 14 → m' 379 14 ≤ 23 → Q r m') : xc_in_symbol (d + 1) c s m Q := by
  obtain ⟨a1, a2, a3, a4, a5, a6, a7, a8, a9, a10⟩ := y_ar_c ha
  have loop : ∀ (j : Nat) (co fi ix l : Int) (m' : w_M), 1 ≤ l → l + j = 16 → y_fr m m' → 0 ≤ m' 379 14 → m' 379 14 ≤ 23 → xp_in_symbol_11 d c s co fi ix l m' Q := by
    intro j
    induction j with
    | zero =>
      intro co fi ix l m' q1 q2 f1 b0 b1
      apply xr_in_symbol_11
      rw [if_pos (by omega)]
      exact hQ _ _ f1 b0 b1
    | succ j ih =>
      intro co fi ix l m' q1 q2 f1 b0 b1
      have go : ∀ m2 : w_M, y_fr m m2 → 1 ≤ m2 379 14 → m2 379 14 ≤ 23 → xp_in_symbol_90 d c s co fi ix l m2 Q := by
        intro m2 f2 b2 b3
        have f3 : y_fr m (w_up (w_up m2 379 13 (w_ushr (m2 379 13) 1)) 379 14 (w_32 (m2 379 14 - 1))) := by
          refine f2.tr (fun i p q => ?_)
          unfold w_up
          rw [if_neg (by omega), if_neg (by omega)]
        have e14 : w_up (w_up m2 379 13 (w_ushr (m2 379 13) 1)) 379 14 (w_32 (m2 379 14 - 1)) 379 14 = m2 379 14 - 1 := by rw [w_up_eq, w_32_id (by omega) (by omega)]
        obtain ⟨m3, hm3⟩ : ∃ m3, m3 = w_up (w_up m2 379 13 (w_ushr (m2 379 13) 1)) 379 14 (w_32 (m2 379 14 - 1)) := ⟨_, rfl⟩
        apply xr_in_symbol_90
        rw [← hm3] at f3 e14 ⊢
        refine ⟨a2, by omega, ?_⟩
        split
        · split
          · exact hQ _ _ f3 (by omega) (by omega)
          · refine ⟨a6, ?_⟩
            split
            · exact ⟨a7, by omega, hQ _ _ f3 (by omega) (by omega)⟩
            · exact hQ _ _ f3 (by omega) (by omega)
        · rw [w_32_id (x := l + 1) (by omega) (by omega)]
          exact ih _ _ _ (l + 1) m3 (by omega) (by omega) f3 (by omega) (by omega)
      apply xr_in_symbol_11
      rw [if_neg (by omega)]
      have hin' := hin.fr f1
      obtain ⟨i1, i2, i3, i4, i5, i6, i7, i8, i9, j1, j2⟩ := hin'
      by_cases z : m' 379 14 = 0
      · rw [if_pos z]
        by_cases w : m' 379 7 < 0
        · rw [if_pos w]; exact hQ _ _ f1 b0 b1
        · rw [if_neg w]
          by_cases y : m' 379 7 < m' 379 8
          · rw [if_pos y, i9]
            refine ⟨i1, i4, ?_⟩
            rw [if_pos (by omega)]
            refine ⟨i1, i3, by omega, ?_⟩
            refine go _ (f1.tr (fun i p q => ?_)) ?_ ?_
            · unfold w_up
              rw [if_neg (by omega), if_neg (by omega), if_neg (by omega)]
            · rw [w_up_nb (by decide), w_up_eq]; decide
            · rw [w_up_nb (by decide), w_up_eq]; decide
          · rw [if_neg y]; exact hQ _ _ f1 b0 b1
      · rw [if_neg z]
        exact go m' f1 (by omega) b1
  apply xr_in_symbol
  exact loop 15 0 0 0 1 m (by decide) (by decide) y_fr.rf h0 h1
/-- what reading bits changes in the reference -/
def y_rfr (n n' : w_M) : Prop := ∀ i j : Int, ¬ (i = 428 ∧ (j = 39 ∨ j = 40)) → n' i j = n i j
theorem y_rfr.rf : y_rfr n n := fun _ _ _ => rfl
theorem y_rfr.tr {n1 n2 : w_M} (h : y_rfr n n1) (h2 : y_rfr n1 n2) : y_rfr n n2 := fun a b q => (h2 a b q).trans (h a b q)
theorem y_rin.fr {n1 : w_M} (h : y_rin n N I) (hf : y_rfr n n1) : y_rin n1 N I := ⟨by rw [hf _ _ (by omega)]; exact h.1, h.2.1, h.2.2.1, fun i q1 q2 => by rw [hf _ _ (by omega)]; exact h.2.2.2 i q1 q2⟩
theorem r_symbol {c s : Int} {k : Nat} (ha : y_rr c s k) (hf : ∀ i : Nat, i < k → 0 ≤ f i ∧ f i ≤ 15) (hc : y_cn n c f k) (hs : y_sy n s f k k) (hin : y_rin n N I) (hby : ∀ j, -128 ≤ n 442 j ∧ n 442 j < 128) (hx : n 428 39 = x) (x0 : 0 ≤ x) (x1 : x ≤ 8 * N) (h40 : n 428 40 = 0)
    (h1 : ∀ v x', y_s f k I (8 * N) 15 0 0 1 x = (0, v, x') → 0 ≤ v → v < k → x < x' → x' ≤ 8 * N → ∀ n', y_rfr n n' → n' 428 39 = x' → n' 428 40 = 0 → Q v n')
    (h0 : ∀ v x', y_s f k I (8 * N) 15 0 0 1 x = (1, v, x') → ∀ n', y_rfr n n' → 0 ≤ n' 428 39 → n' 428 39 ≤ 8 * N → n' 428 40 = 1 → Q 0 n') : xc_m_symbol (d + 2) c s n Q := by
  obtain ⟨a1, a2, a3, a4, a5, a6, a7, a8, a9, a10⟩ := y_rr_c ha
  have cs : c ≠ 428 ∧ s ≠ 428 := by rcases ha with ⟨rfl, rfl, _⟩ | ⟨rfl, rfl, _⟩ <;> decide
  have hk : k ≤ 288 := by rcases ha with ⟨_, _, z⟩ | ⟨_, _, z⟩ <;> omega
  have loop : ∀ (j : Nat) (co fi l y : Int) (n' : w_M), 1 ≤ l → l + j = 16 → 0 ≤ fi → fi ≤ co → co % 2 = 0 → co < ((2 ^ l.toNat : Nat) : Int) → x + l = y + 1 → y_rfr n n' → n' 428 39 = y → y ≤ 8 * N → n' 428 40 = 0 →
      (∀ v x', y_s f k I (8 * N) j co fi l y = (0, v, x') → 0 ≤ v → v < k → x < x' → x' ≤ 8 * N → ∀ n', y_rfr n n' → n' 428 39 = x' → n' 428 40 = 0 → Q v n') →
      (∀ v x', y_s f k I (8 * N) j co fi l y = (1, v, x') → ∀ n', y_rfr n n' → 0 ≤ n' 428 39 → n' 428 39 ≤ 8 * N → n' 428 40 = 1 → Q 0 n') → xp_m_symbol_11 (d + 1) c s co fi (y_o (y_c f k) l.toNat) l n' Q := by
    intro j
    induction j with
    | zero =>
      intro co fi l y n' q1 q2 q3 q4 q5 q6 q7 q8 q9 q10 q11 g1 g0
      apply xr_m_symbol_11
      rw [if_neg (by omega)]
      refine g0 0 0 rfl _ (q8.tr (fun i p q => ?_)) ?_ ?_ w_up_eq
      · unfold w_up
        rw [if_neg (by omega)]
      · rw [w_up_nb (by decide), q9]; omega
      · rw [w_up_nb (by decide), q9]; omega
    | succ j ih =>
      intro co fi l y n' q1 q2 q3 q4 q5 q6 q7 q8 q9 q10 q11 g1 g0
      have pl16 : ((2 ^ l.toNat : Nat) : Int) ≤ 32768 := by have := Nat.pow_le_pow_right (show 0 < 2 by decide) (show l.toNat ≤ 15 by omega); omega
      have pl1 : ((2 ^ (l + 1).toNat : Nat) : Int) = 2 * ((2 ^ l.toNat : Nat) : Int) := by
        rw [show (l + 1).toNat = l.toNat + 1 by omega, Nat.pow_succ]; omega
      have pe : ((2 ^ l.toNat : Nat) : Int) % 2 = 0 := by rw [show l.toNat = (l.toNat - 1) + 1 by omega, Nat.pow_succ]; omega
      have hcl := y_c_r f l k
      have ho := y_o_s (C := y_c f k) q1
      have ho2 := y_o_le (C := y_c f k) (fun l => (y_c_r f l k).1) (a := l.toNat) (b := 16) (by omega) (by omega)
      have ho3 := y_o_0 (C := y_c f k) (fun l => (y_c_r f l k).1) l.toNat
      have ho4 := y_o_tot k hf
      have ho5 := (y_c_r f 0 k).1
      rw [show ((l.toNat : Nat) : Int) = l by omega] at ho2
      have es : y_s f k I (8 * N) (j + 1) co fi l y = if y < 8 * N then (if co + y_b I y - y_c f k l < fi then (0, y_n f l (co + y_b I y - fi) k, y + 1) else y_s f k I (8 * N) j ((co + y_b I y) * 2) ((fi + y_c f k l) * 2) (l + 1) (y + 1)) else (1, 0, 0) := rfl
      rw [es] at g1 g0
      have hbit := y_b_r I y
      have e3 : y_V I y 1 = y_b I y := by
        show 0 + y_b I (y + ((0 : Nat) : Int)) * ((2 ^ 0 : Nat) : Int) = _
        rw [show y + ((0 : Nat) : Int) = y by omega]
        show 0 + y_b I y * 1 = _
        omega
      apply xr_m_symbol_11
      rw [if_pos (by omega)]
      refine r_bits (d := d) 1 (by decide) (hin.fr q8) (fun p => by rw [q8 _ _ (by omega)]; exact hby p) q9 (by omega) q10 (fun w => ?_) (fun w => ?_)
      · rw [if_pos (by omega)] at g1 g0
        rw [w_up_nb (by decide), if_pos q11, e3]
        obtain ⟨n3, hn3⟩ : ∃ n3, n3 = w_up n' 428 39 (y + ((1 : Nat) : Int)) := ⟨_, rfl⟩
        rw [← hn3]
        have f2 : y_rfr n n3 := by
          refine q8.tr (fun i p q => ?_)
          rw [hn3]
          unfold w_up
          rw [if_neg (by omega)]
        have n39 : n3 428 39 = y + 1 := by rw [hn3, w_up_eq]; rfl
        have n40 : n3 428 40 = 0 := by rw [hn3, w_up_nb (by decide)]; exact q11
        have ec : n3 c l = y_c f k l := by rw [f2 _ _ (by omega)]; exact hc l (by omega) (by omega)
        rw [w_or_bit (by omega) (by omega) q5 hbit, ec]
        refine ⟨a2, by omega, ?_⟩
        rw [w_32_id (x := co + y_b I y - y_c f k l) (by omega) (by omega), w_32_id (x := y_o (y_c f k) l.toNat + (co + y_b I y)) (by omega) (by omega), w_32_id (x := y_o (y_c f k) l.toNat + (co + y_b I y) - fi) (by omega) (by omega)]
        by_cases z : co + y_b I y - y_c f k l < fi
        · rw [if_pos z]
          rw [if_pos z] at g1
          refine ⟨a7, by omega, ?_⟩
          have sm : y_sy n3 s f k k := fun i i1 i2 => by rw [f2 _ _ (by omega)]; exact hs i i1 i2
          obtain ⟨v1, v2, v3⟩ := sm.at q1 (r := co + y_b I y - fi) ⟨by omega, by omega⟩
          rw [show y_o (y_c f k) l.toNat + (co + y_b I y) - fi = y_o (y_c f k) l.toNat + (co + y_b I y - fi) by omega, v1]
          exact g1 _ _ rfl v2 v3 (by omega) (by omega) n3 f2 n39 n40
        · rw [if_neg z]
          rw [if_neg z] at g1 g0
          rw [w_32_id (x := (co + y_b I y) * 2) (by omega) (by omega), w_32_id (x := fi + y_c f k l) (by omega) (by omega), w_32_id (x := (fi + y_c f k l) * 2) (by omega) (by omega), w_32_id (x := y_o (y_c f k) l.toNat + y_c f k l) (by omega) (by omega), w_32_id (x := l + 1) (by omega) (by omega), ← ho]
          exact ih _ _ (l + 1) (y + 1) n3 (by omega) (by omega) (by omega) (by omega) (by omega) (by omega) (by omega) f2 n39 (by omega) n40 g1 g0
      · rw [if_neg (by omega)] at g0
        rw [w_up_eq, if_neg (by decide)]
        refine g0 0 0 rfl _ (q8.tr (fun i p q => ?_)) ?_ ?_ w_up_eq
        · unfold w_up
          rw [if_neg (by omega), if_neg (by omega)]
        · rw [w_up_nb (by decide), w_up_eq]; omega
        · rw [w_up_nb (by decide), w_up_eq]; exact Int.le_refl _
  apply xr_m_symbol
  exact loop 15 0 0 1 x n (by decide) (by decide) (by decide) (by decide) (by decide) (by decide) (by omega) y_rfr.rf hx x1 h40 h1 h0
/-- the reference once it is broken, or not: whatever it stands at -/
theorem r_symbol_any {c s : Int} {k : Nat} (ha : y_rr c s k) (hin : y_rin n N I) (hby : ∀ j, -128 ≤ n 442 j ∧ n 442 j < 128) (hx : n 428 39 = 8 * N) (hQ : ∀ n', y_rfr n n' → n' 428 39 = 8 * N → n' 428 40 = 1 → Q 0 n') : xc_m_symbol (d + 2) c s n Q := by
  apply xr_m_symbol
  apply xr_m_symbol_11
  rw [if_pos (by decide)]
  refine r_bits (d := d) 1 (by decide) hin hby hx (by have := hin.2.1; omega) (Int.le_refl _) (fun w => by omega) (fun w => ?_)
  rw [w_up_eq, if_neg (by decide)]
  refine hQ _ (fun i p q => ?_) (by rw [w_up_nb (by decide), w_up_eq]) w_up_eq
  unfold w_up
  rw [if_neg (by omega), if_neg (by omega)]
end YS
