/-! ===== dynamic heads: the reference ===== -/
section YQ
variable {d : Nat} {m m' m2 n n' n2 : w_M} {Q : Int → w_M → Prop} {I f1 f2 g : Int → Int} {A base N O x c M v all at' : Int} {o : List Int} {n1 k2 k : Nat}
/-- the reference's -/
theorem r_dyn_55_b {l1 l2 mn : Int} (h12 : 0 ≤ mn ∧ mn ≤ 19) (hin : y_rin n N I) (hby : ∀ j, -128 ≤ n 442 j ∧ n 442 j < 128) (h39 : n 428 39 = 8 * N) (h40 : n 428 40 = 1) (h0 : ∀ n', y_df n n' → n' 428 40 = 1 → Q 0 n') : ∀ (k : Nat) (i : Int), i + k = 19 → 0 ≤ i → xp_m_dynamic_55 (d + 2) l1 l2 mn i n Q := by
  have loop : ∀ (k : Nat) (i : Int) (n' : w_M), i + k = 19 → 0 ≤ i → y_df n n' → n' 428 39 = 8 * N → n' 428 40 = 1 → xp_m_dynamic_55 (d + 2) l1 l2 mn i n' Q := by
    intro k
    induction k with
    | zero =>
      intro i n' hi i0 f e39 e40
      apply xr_m_dynamic_55
      rw [if_neg (by omega), if_neg (by omega)]
      exact h0 _ f.b w_up_eq
    | succ k ih =>
      intro i n' hi i0 f e39 e40
      have od := y_od (m := n') (k := i) ⟨i0, by omega⟩
      apply xr_m_dynamic_55
      rw [if_pos (by omega)]
      refine sp_m_orderOf ?_
      rw [od.2.2.2.1, w_32_id (x := i + 1) (by omega) (by omega)]
      by_cases z : i < mn
      · rw [if_pos z]
        have hin' : y_rin n' N I := ⟨by rw [f _ _ (by omega) (by omega)]; exact hin.1, hin.2.1, hin.2.2.1, fun p q1 q2 => by rw [f _ _ (by omega) (by omega)]; exact hin.2.2.2 p q1 q2⟩
        refine r_bits (d := d + 1) 3 (by decide) hin' (fun j => by rw [f _ _ (by omega) (by omega)]; exact hby j) e39 (by have := hin.2.1; omega) (Int.le_refl _) (fun w => by omega) (fun w => ?_)
        refine ⟨by omega, ih (i + 1) _ (by omega) (by omega) (fun p j q q2 => ?_) (by rw [w_up_ne (by decide), w_up_nb (by decide), w_up_eq]) (by rw [w_up_ne (by decide), w_up_eq])⟩
        unfold w_up
        rw [if_neg (by omega), if_neg (by omega), if_neg (by omega)]
        exact f p j q q2
      · rw [if_neg z]
        refine ⟨by omega, ih (i + 1) _ (by omega) (by omega) (fun p j q q2 => ?_) (by rw [w_up_ne (by decide)]; exact e39) (by rw [w_up_ne (by decide)]; exact e40)⟩
        unfold w_up
        rw [if_neg (by omega)]
        exact f p j q q2
  intro k i hi i0
  exact loop k i n hi i0 y_df.rf h39 h40
/-- the whole head, the codes made: both conditions -/
def y_hdr (I : Int → Int) (M x : Int) : Prop := x + 14 ≤ M ∧ y_lits I x ≤ 286 ∧ y_dsts I x ≤ 30 ∧ x + 14 + 3 * y_many I x ≤ M ∧ y_lf (y_c (y_f0 I (x + 14) (y_many I x)) 19) 15 1 1 = 0
def y_rsx (I : Int → Int) (M x : Int) : Int × Int × (Int → Int) := y_rs I M (y_S (y_f0 I (x + 14) (y_many I x)) 19 I M) (y_lits I x + y_dsts I x) (y_lits I x + y_dsts I x).toNat 0 (x + 14 + 3 * y_many I x) (fun _ => 0)
def y_dok (I : Int → Int) (M x : Int) : Prop := y_hdr I M x ∧ (y_rsx I M x).1 = 0 ∧ y_ok (y_rsx I M x).2.2 (y_lits I x).toNat (y_dsts I x).toNat
theorem y_rs_r {S0 : Int → Int × Int × Int} : ∀ (k : Nat) (at' x : Int) (g : Int → Int), (y_rs I M S0 all k at' x g).1 = 0 ∨ (y_rs I M S0 all k at' x g).1 = 1 := by
  intro k
  induction k with
  | zero => intro at' x g; exact Or.inl rfl
  | succ k ih =>
    intro at' x g
    unfold y_rs
    split
    · split
      · exact Or.inr rfl
      · split
        · exact ih _ _ _
        · split
          · exact Or.inr rfl
          · split
            · exact Or.inr rfl
            · split
              · exact Or.inr rfl
              · exact ih _ _ _
    · exact Or.inl rfl
theorem r_dynamic (hK : y_K n N I x o)
    (h1 : y_dok I (8 * N) x → ∀ n', y_df n n' → y_K n' N I (y_rsx I (8 * N) x).2.1 o → y_tb n' 445 446 447 448 (y_rsx I (8 * N) x).2.2 (y_lits I x).toNat (fun i => (y_rsx I (8 * N) x).2.2 ((y_lits I x).toNat + i)) (y_dsts I x).toNat → (∀ i, 0 ≤ i → i < y_lits I x + y_dsts I x → 0 ≤ (y_rsx I (8 * N) x).2.2 i ∧ (y_rsx I (8 * N) x).2.2 i ≤ 15) → Q 0 n')
    (h0 : ¬ y_dok I (8 * N) x → ∀ n', y_df n n' → n' 428 40 = 1 → Q 0 n') : xc_m_dynamic (d + 3) n Q := by
  obtain ⟨j1, j2, j3, j4, j5, j6, j7, j8, j9⟩ := id hK
  have hN := j1.2.2.1
  have hN0 := j1.2.1
  have p5 : ((2 ^ 5 : Nat) : Int) = 32 := rfl
  have p4 : ((2 ^ 4 : Nat) : Int) = 16 := rfl
  have v5 := y_V_r I x 5
  have v52 := y_V_r I (x + 5) 5
  have v4 := y_V_r I (x + 10) 4
  apply xr_m_dynamic
  refine r_bits (d := d + 1) 5 (by decide) j1 j9 j2 j3 j4 (fun w => ?_) (fun w => ?_)
  · have f1 : y_rfr n (w_up n 428 39 (x + ((5 : Nat) : Int))) := fun i j q => by unfold w_up; rw [if_neg (by omega)]
    have K1 := hK.fr f1 w_up_eq (by omega) w (by rw [w_up_nb (by decide)]; exact j5)
    refine r_bits (d := d + 1) 5 (by decide) K1.1 K1.2.2.2.2.2.2.2.2 w_up_eq (by omega) w (fun w2 => ?_) (fun w2 => ?_)
    · rw [w_up_up]
      have f2 : y_rfr n (w_up n 428 39 (x + ((5 : Nat) : Int) + ((5 : Nat) : Int))) := fun i j q => by unfold w_up; rw [if_neg (by omega)]
      have K2 := hK.fr f2 w_up_eq (by omega) w2 (by rw [w_up_nb (by decide)]; exact j5)
      refine r_bits (d := d + 1) 4 (by decide) K2.1 K2.2.2.2.2.2.2.2.2 w_up_eq (by omega) w2 (fun w3 => ?_) (fun w3 => ?_)
      · rw [w_up_up, show x + ((5 : Nat) : Int) + ((5 : Nat) : Int) + ((4 : Nat) : Int) = x + 14 by omega, show x + ((5 : Nat) : Int) + ((5 : Nat) : Int) = x + 10 by omega, show x + ((5 : Nat) : Int) = x + 5 by omega]
        have f3 : y_rfr n (w_up n 428 39 (x + 14)) := fun i j q => by unfold w_up; rw [if_neg (by omega)]
        have K3 := hK.fr f3 w_up_eq (by omega) (by omega) (by rw [w_up_nb (by decide)]; exact j5)
        rw [w_up_nb (by decide), if_pos j5, w_32_id (x := y_V I x 5 + 257) (by omega) (by omega), w_32_id (x := y_V I (x + 5) 5 + 1) (by omega) (by omega), w_32_id (x := y_V I (x + 10) 4 + 4) (by omega) (by omega)]
        have eL : y_V I x 5 + 257 = y_lits I x := rfl
        have eD : y_V I (x + 5) 5 + 1 = y_dsts I x := rfl
        have eM : y_V I (x + 10) 4 + 4 = y_many I x := rfl
        have rL : 257 ≤ y_lits I x ∧ y_lits I x ≤ 288 := by rw [← eL]; omega
        have rD : 1 ≤ y_dsts I x ∧ y_dsts I x ≤ 32 := by rw [← eD]; omega
        have rM : 4 ≤ y_many I x ∧ y_many I x ≤ 19 := by rw [← eM]; omega
        rw [eL, eD, eM]
        by_cases q1 : 286 < y_lits I x
        · rw [if_pos q1]
          exact h0 (fun y => by have := y.1.2.1; omega) _ f3.df.b w_up_eq
        · rw [if_neg q1]
          by_cases q2 : 30 < y_dsts I x
          · rw [if_pos q2]
            exact h0 (fun y => by have := y.1.2.2.1; omega) _ f3.df.b w_up_eq
          · rw [if_neg q2]
            have loop : ∀ (k : Nat) (i : Int) (n5 : w_M), i + k = 19 → 0 ≤ i → y_df n n5 → y_K n5 N I (x + 14 + 3 * (if i < y_many I x then i else y_many I x)) o → (∀ p, 0 ≤ p → p < 19 → y_iv p < i → n5 444 p = y_f0 I (x + 14) (y_many I x) p) → xp_m_dynamic_55 (d + 2) (y_lits I x) (y_dsts I x) (y_many I x) i n5 Q := by
              intro k
              induction k with
              | zero =>
                intro i n5 hi i0 f5 K5 g5
                apply xr_m_dynamic_55
                rw [if_neg (by omega), if_pos K5.2.2.2.2.1]
                rw [if_neg (by omega)] at K5
                have hx5 := K5.2.2.2.1
                refine r_build (d := d + 1) (k := 19) (f := y_f0 I (x + 14) (y_many I x)) (Or.inl ⟨rfl, rfl, by decide⟩) (by decide) (fun p hp => ⟨by rw [Int.zero_add]; exact g5 p (by omega) (by omega) (by have := (y_od (m := n5) (k := p) ⟨by omega, by omega⟩).2.2.2.2.2.1; omega), y_f0_r p⟩) (fun n6 b1 b2 b3 => ?_)
                have tf6 : y_rtf n5 n6 := fun i j q => b1 i j (by omega) (by omega) (by omega)
                by_cases z : y_lf (y_c (y_f0 I (x + 14) (y_many I x)) 19) 15 1 1 = 0
                · rw [if_pos z]
                  have hh : y_hdr I (8 * N) x := ⟨by omega, by omega, by omega, hx5, z⟩
                  have s6 := b3 (by omega)
                  refine r_rs (d := d) (o := o) (f0 := y_f0 I (x + 14) (y_many I x)) (fun i _ => y_f0_r i) ⟨by omega, by omega, by omega, by omega⟩ (y_lits I x + y_dsts I x).toNat 0 _ (fun _ => 0) n6 (by omega) (by decide) (by omega) (K5.tf tf6) b2 s6 (fun i q1 q2 => by omega) (fun x' g' y1 n7 f7 K7 g7 => ?_) (fun y1 n7 f7 b7 => ?_)
                  · have ers : y_rsx I (8 * N) x = (0, x', g') := y1
                    have e1 : ((y_lits I x).toNat : Int) = y_lits I x := by omega
                    have e2 : ((y_dsts I x).toNat : Int) = y_dsts I x := by omega
                    have key := r_dyn_322 (d := d) (Q := Q) (l1 := (y_lits I x).toNat) (l2 := (y_dsts I x).toNat) (g := g') (by omega) K7 (fun i q1 q2 => g7 i q1 (by omega)) (fun y n8 f8 K8 t8 => ?_) (fun y n8 f8 b8 => ?_)
                    · rw [e1, e2] at key
                      exact key
                    · refine h1 ⟨hh, by rw [ers], by rw [ers]; exact y⟩ n8 (f5.tr (tf6.df.tr (f7.tr f8))) (by rw [ers]; exact K8) ?_ (fun i q1 q2 => by rw [ers]; exact (g7 i q1 q2).2)
                      rw [ers]
                      exact t8
                    · refine h0 (fun w => y ?_) n8 (f5.tr (tf6.df.tr (f7.tr f8))) b8
                      have := w.2.2
                      rw [ers] at this
                      exact this
                  · have hx : ¬ y_dok I (8 * N) x := by
                      intro w
                      have := w.2.1
                      have y1' : (y_rsx I (8 * N) x).1 = 1 := y1
                      omega
                    have f57 := f5.tr (tf6.df.tr f7)
                    exact ⟨h0 hx n7 f57 b7, r_dyn_322_b (d := d) ⟨by omega, by omega⟩ b7 (fun n8 f8 b8 => h0 hx n8 (f57.tr f8) b8)⟩
                · rw [if_neg z]
                  exact h0 (fun y => z y.1.2.2.2.2) _ (f5.tr tf6.df).b w_up_eq
              | succ k ih =>
                intro i n5 hi i0 f5 K5 g5
                have od := y_od (m := n5) (k := i) ⟨i0, by omega⟩
                apply xr_m_dynamic_55
                rw [if_pos (by omega)]
                refine sp_m_orderOf ?_
                rw [od.2.2.2.1, w_32_id (x := i + 1) (by omega) (by omega)]
                obtain ⟨k1, k2, k3, k4, k5, k6, k7, k8, k9⟩ := id K5
                -- one more is known
                have next : ∀ (n6 : w_M) (u x6 : Int), y_rfr n5 n6 → y_K n6 N I x6 o → x6 = x + 14 + 3 * (if i + 1 < y_many I x then i + 1 else y_many I x) → u = y_f0 I (x + 14) (y_many I x) (w_ORDER.getD i.toNat 0) → ((0 : Int) ≤ w_ORDER.getD i.toNat 0 ∧ w_ORDER.getD i.toNat 0 < 320) ∧ xp_m_dynamic_55 (d + 2) (y_lits I x) (y_dsts I x) (y_many I x) (i + 1) (w_up n6 444 (w_ORDER.getD i.toNat 0) u) Q := by
                  intro n6 u x6 f6 K6 hx6 hu
                  refine ⟨by omega, ih (i + 1) _ (by omega) (by omega) (f5.tr (f6.df.tr (fun p j q q2 => by rw [w_up_ne (by omega)]))) (by rw [← hx6]; exact K6.tf (fun p j q => by rw [w_up_ne (by omega)])) (fun p q1 q2 q3 => ?_)⟩
                  by_cases z : p = w_ORDER.getD i.toNat 0
                  · rw [z, w_up_eq, hu]
                  · rw [w_up_nb z, f6 _ _ (by omega)]
                    have op := y_od (m := n6) (k := p) ⟨q1, q2⟩
                    have ne : y_iv p ≠ i := by
                      intro e
                      apply z
                      rw [← e, op.2.2.2.2.2.2]
                    exact g5 p q1 q2 (by omega)
                by_cases z : i < y_many I x
                · rw [if_pos z]
                  rw [if_pos z] at K5 k2 k4
                  have hv3 := y_V_r I (x + 14 + 3 * i) 3
                  refine r_bits (d := d + 1) 3 (by decide) k1 k9 k2 (by omega) k4 (fun w6 => ?_) (fun w6 => ?_)
                  · have f6 : y_rfr n5 (w_up n5 428 39 (x + 14 + 3 * i + ((3 : Nat) : Int))) := fun p j q => by unfold w_up; rw [if_neg (by omega)]
                    refine next _ _ (x + 14 + 3 * i + ((3 : Nat) : Int)) f6 (K5.fr f6 w_up_eq (by omega) w6 (by rw [w_up_nb (by decide)]; exact k5)) ?_ ?_
                    · split <;> omega
                    · unfold y_f0
                      rw [od.1, if_pos z]
                  · have f6 : y_rfr n5 (w_up (w_up n5 428 39 (8 * N)) 428 40 1) := fun p j q => by unfold w_up; rw [if_neg (by omega), if_neg (by omega)]
                    have nd : ¬ y_dok I (8 * N) x := by
                      intro y
                      have := y.1.2.2.2.1
                      omega
                    refine ⟨by omega, ?_⟩
                    have tf7 : y_rtf (w_up (w_up n5 428 39 (8 * N)) 428 40 1) (w_up (w_up (w_up n5 428 39 (8 * N)) 428 40 1) 444 (w_ORDER.getD i.toNat 0) 0) := fun p j q => by rw [w_up_ne (by omega)]
                    have in7 : y_rin (w_up (w_up (w_up n5 428 39 (8 * N)) 428 40 1) 444 (w_ORDER.getD i.toNat 0) 0) N I := by
                      have := k1.fr f6
                      exact ⟨by rw [tf7 _ _ (by omega)]; exact this.1, this.2.1, this.2.2.1, fun p q1 q2 => by rw [tf7 _ _ (by omega)]; exact this.2.2.2 p q1 q2⟩
                    exact r_dyn_55_b (d := d) (N := N) (I := I) ⟨by omega, rM.2⟩ in7 (fun j => by rw [tf7 _ _ (by omega), f6 _ _ (by omega)]; exact k9 j) (by rw [w_up_ne (by decide), w_up_nb (by decide), w_up_eq]) (by rw [w_up_ne (by decide), w_up_eq]) (fun n8 f8 b8 => h0 nd n8 (f5.tr (f6.df.tr (tf7.df.tr f8))) b8) k (i + 1) (by omega) (by omega)
                · rw [if_neg z]
                  rw [if_neg z] at K5
                  refine next n5 0 _ y_rfr.rf K5 (by rw [if_neg (by omega)]) ?_
                  unfold y_f0
                  rw [od.1, if_neg z]
            refine loop 19 0 _ (by decide) (by decide) f3.df ?_ (fun p q1 q2 q3 => ?_)
            · rw [if_pos (by omega), show x + 14 + 3 * 0 = x + 14 by omega]
              exact K3
            · have := (y_od (m := n) (k := p) ⟨q1, q2⟩).2.2.2.2.1
              omega
      · rw [w_up_eq, if_neg (by decide)]
        refine h0 (fun y => by have := y.1.1; omega) _ (fun i j q q2 => ?_) w_up_eq
        unfold w_up
        rw [if_neg (by omega), if_neg (by omega), if_neg (by omega), if_neg (by omega)]
    · have f2 : y_rfr n (w_up (w_up (w_up n 428 39 (x + ((5 : Nat) : Int))) 428 39 (8 * N)) 428 40 1) := fun i j q => by unfold w_up; rw [if_neg (by omega), if_neg (by omega), if_neg (by omega)]
      refine r_bits (d := d + 1) (x := 8 * N) 4 (by decide) (j1.fr f2) (fun j => by rw [f2 _ _ (by omega)]; exact j9 j) (by rw [w_up_nb (by decide), w_up_eq]) (by omega) (Int.le_refl _) (fun w3 => by omega) (fun w3 => ?_)
      rw [w_up_eq, if_neg (by decide)]
      refine h0 (fun y => by have := y.1.1; omega) _ (fun i j q q2 => ?_) w_up_eq
      unfold w_up
      rw [if_neg (by omega), if_neg (by omega), if_neg (by omega), if_neg (by omega), if_neg (by omega), if_neg (by omega)]
  · have f2 : y_rfr n (w_up (w_up n 428 39 (8 * N)) 428 40 1) := fun i j q => by unfold w_up; rw [if_neg (by omega), if_neg (by omega)]
    refine r_bits (d := d + 1) (x := 8 * N) 5 (by decide) (j1.fr f2) (fun j => by rw [f2 _ _ (by omega)]; exact j9 j) (by rw [w_up_nb (by decide), w_up_eq]) (by omega) (Int.le_refl _) (fun w3 => by omega) (fun w3 => ?_)
    have f3 : y_rfr n (w_up (w_up (w_up (w_up n 428 39 (8 * N)) 428 40 1) 428 39 (8 * N)) 428 40 1) := fun i j q => by unfold w_up; rw [if_neg (by omega), if_neg (by omega), if_neg (by omega), if_neg (by omega)]
    refine r_bits (d := d + 1) (x := 8 * N) 4 (by decide) (j1.fr f3) (fun j => by rw [f3 _ _ (by omega)]; exact j9 j) (by rw [w_up_nb (by decide), w_up_eq]) (by omega) (Int.le_refl _) (fun w3 => by omega) (fun w3 => ?_)
    rw [w_up_eq, if_neg (by decide)]
    refine h0 (fun y => by have := y.1.1; omega) _ (fun i j q q2 => ?_) w_up_eq
    unfold w_up
    rw [if_neg (by omega), if_neg (by omega), if_neg (by omega), if_neg (by omega), if_neg (by omega), if_neg (by omega), if_neg (by omega)]
end YQ
