/-! ===== the reference opens a file; all its sections, both sides ===== -/
def e_rz (n n' : w_M) : Prop := ∀ i j : Int, ¬ (i = 451 ∨ (454 ≤ i ∧ i ≤ 457) ∨ i = 460) → ¬ (i = 428 ∧ (j = 60 ∨ j = 61)) → n' i j = n i j
def e_r0 (n : w_M) : Prop := n 428 60 = 0 ∧ n 428 61 = 0 ∧ ∀ k, 0 ≤ k → k < 200 → n 451 k = 0 ∧ n 454 k = 0 ∧ n 455 k = -1 ∧ n 456 k = 0 ∧ n 457 k = 0 ∧ n 460 k = 0
/-- behind the sections: both failed, or both know all numbers -/
def e_pq (m n : w_M) (W : Int → Int) (L : Int) (m1 n1 : w_M) : Prop := w_nm (w_G0 sC) m1 ∧ l_cf m m1 ∧ l_mf n n1 ∧ ((m1 376 6 ≠ 0 ∧ n1 428 27 ≠ 0) ∨ ∃ g', e_Y g' m1 n1 W L ∧ 1 ≤ n1 428 61)
section SX
variable {d : Nat} {g g' : s_g} {m m' m0 m1 m2 m3 n n' n1 n2 : w_M} {Q : Int → w_M → Prop} {W : Int → Int} {L p v : Int}
theorem r_rf_73 (hF : e_F n W L) (H1 : (e_at W 0 e_HEAD ∧ 48 ≤ W 7 ∧ W 7 ≤ 55) → xp_m_readFile_151 (d + 5) (L - 9) n Q) (H0 : ¬ (e_at W 0 e_HEAD ∧ 48 ≤ W 7 ∧ W 7 ≤ 55) → ∀ c x, c ≠ 0 → Q 0 (m_fl n c x)) :
    ∀ (k i : Nat), i + k = 8 → (∀ j : Nat, j < i → j < 7 → W j = e_HEAD.getD j 0) → (i = 8 → 48 ≤ W 7 ∧ W 7 ≤ 55) → xp_m_readFile_73 (d + 5) i n Q := by
  intro k
  have L0 := hF.1.1
  have L8 := hF.2.1
  induction k with
  | zero =>
    intro i hi hx h8
    apply xr_m_readFile_73
    rw [if_neg (by omega), hF.2.2.1, w_32_id (x := L - 9) (by omega) (by omega)]
    refine H1 ⟨fun j hj => ?_, h8 (by omega)⟩
    have hj7 : j < 7 := hj
    rw [Int.zero_add]
    exact hx j (by omega) hj7
  | succ k ih =>
    intro i hi hx h8
    have bad : ¬ (e_at W 0 e_HEAD ∧ 48 ≤ W 7 ∧ W 7 ≤ 55) → (if (i : Int) < n 428 3 then xc_m_fail (d + 5) 1 i n (fun _ m3 => Q 0 m3) else xc_m_fail (d + 5) 1 (n 428 3) n (fun _ m3 => Q 0 m3)) := by
      intro z
      by_cases q : (i : Int) < n 428 3
      · rw [if_pos q]; exact sp_m_fail (H0 z 1 _ (by decide))
      · rw [if_neg q]; exact sp_m_fail (H0 z 1 _ (by decide))
    apply xr_m_readFile_73
    rw [if_pos (by omega)]
    refine r_byteHere (d := d + 4) hF (by omega) ?_
    by_cases i7 : i = 7
    · have e : (i : Int) = 7 := by omega
      rw [if_neg (by omega)]
      rw [e] at bad ⊢
      by_cases q1 : W 7 < 48
      · rw [if_pos q1]; exact bad (fun z => by have := z.2; omega)
      · rw [if_neg q1]
        by_cases q2 : 55 < W 7
        · rw [if_pos q2]; exact bad (fun z => by have := z.2; omega)
        · rw [if_neg q2, w_32_id (by decide) (by decide)]
          refine ih 8 (by omega) (fun j j1 j2 => hx j (by omega) j2) (fun _ => ⟨by omega, by omega⟩)
    · rw [if_pos (by omega)]
      have hl : i < e_HEAD.length := by show i < 7; omega
      refine sp_charAt (d := d + 1) t_mhead hl ?_
      by_cases q : W i = e_HEAD.getD i 0
      · rw [if_pos q, w_32_id (by omega) (by omega), show (i : Int) + 1 = ((i + 1 : Nat) : Int) by omega]
        refine ih (i + 1) (by omega) (fun j j1 j2 => ?_) (fun z => by omega)
        by_cases z : j = i
        · subst z; exact q
        · exact hx j (by omega) j2
      · rw [if_neg q]
        refine bad (fun z => q ?_)
        have := z.1 i hl
        rw [Int.zero_add] at this
        exact this
theorem r_rf_151 (hF : e_F n W L) : ∀ (k : Nat) (p : Int), ((p = k - 1 ∧ (0 < k → (k : Int) + 8 ≤ L)) ∨ (k = 0 ∧ p < 0)) → (¬ e_ls W k < 0 → xc_m_ending (d + 8) (e_ls W k + 9) n (fun r2 m2 => xp_m_readFile_195 (d + 8) r2 m2 Q)) → (e_ls W k < 0 → ∀ c x, c ≠ 0 → Q 0 (m_fl n c x)) → xp_m_readFile_151 (d + 8) p n Q := by
  intro k
  have L8 := hF.2.1
  induction k with
  | zero =>
    intro p hp H1 H0
    apply xr_m_readFile_151
    rw [if_pos (by omega), if_pos (by omega)]
    exact sp_m_fail (H0 (show (-1 : Int) < 0 by decide) 2 _ (by decide))
  | succ k ih =>
    intro p hp H1 H0
    have e : p = k := by omega
    have kL : (k : Int) + 9 ≤ L := by omega
    subst e
    have l9 : (e_SX.length : Int) = 9 := rfl
    apply xr_m_readFile_151
    rw [if_neg (by omega)]
    refine r_stand (d := d + 3) hF t_msx ⟨by omega, by omega⟩ (fun z => ?_) (fun z => ?_)
    · have ls := e_ls_y (W := W) (k := k) z.2
      rw [if_neg (by decide), if_neg (by omega), w_32_id (x := (k : Int) + 9) (by omega) (by omega)]
      rw [ls] at H1
      exact H1 (by omega)
    · have ls := e_ls_n (W := W) (k := k) (fun y => z ⟨by omega, y⟩)
      rw [if_pos rfl, w_32_id (x := (k : Int) + -1) (by omega) (by omega)]
      rw [ls] at H1 H0
      exact ih _ (Or.inl ⟨by omega, fun _ => by omega⟩) H1 H0
theorem r_rf_0 (h : n 428 27 ≠ 0) (hQ : Q 0 n) : xp_m_readFile_195 (d + 1) v n Q := by
  apply xr_m_readFile_195
  refine sp_m_good (d := d) ?_
  rw [show f_m_good n = 0 from if_neg h, if_pos rfl]
  exact hQ
/-- from the head to the newest section -/
theorem r_frame (hF : e_F n W L) (h27 : n 428 27 = 0) (H1 : ∀ v, e_bg W L = some v → xp_m_readFile_195 (d + 8) v n Q) (H0 : e_bg W L = none → ∀ c x, c ≠ 0 → Q 0 (m_fl n c x)) : xp_m_readFile_73 (d + 8) 0 n Q := by
  have L0 := hF.1.1
  refine r_rf_73 (d := d + 3) hF (fun y1 => ?_) (fun y1 => H0 (if_pos (Or.inl y1))) 8 0 rfl (fun j hj => absurd hj (by omega)) (fun z => by omega)
  refine r_rf_151 (d := d) hF (L - 8).toNat (L - 9) ?_ (fun q => ?_) (fun q => H0 (if_pos (Or.inr q)))
  · by_cases q : L ≤ 8
    · exact Or.inr ⟨by omega, by omega⟩
    · exact Or.inl ⟨by omega, fun _ => by omega⟩
  · have eb := e_bg_y (L := L) y1 q
    have lr : 0 ≤ e_ls W (L - 8).toNat ∧ e_ls W (L - 8).toNat < ((L - 8).toNat : Int) := by
      rcases e_ls_r W (L - 8).toNat with z | z
      · omega
      · exact ⟨z.1, z.2.1⟩
    refine r_ending (d := d) hF ⟨by omega, by omega⟩ (fun v hv => H1 v (eb.trans hv)) (fun hv x => ?_)
    exact r_rf_0 (d := d + 7) (m_fl_ne h27 (by decide)) (H0 (eb.trans hv) 2 x (by decide))
theorem r_rf_2 (hQ : ∀ n', e_rz n n' → e_r0 n' → xp_m_readFile_73 d 0 n' Q) : xp_m_readFile_2 d 0 n Q := by
  have key : ∀ (k : Nat) (i : Int) (n1 : w_M), i + k = 200 → 0 ≤ i → e_rz n n1 → (∀ x, 0 ≤ x → x < i → n1 451 x = 0 ∧ n1 454 x = 0 ∧ n1 455 x = -1 ∧ n1 456 x = 0 ∧ n1 457 x = 0 ∧ n1 460 x = 0) → xp_m_readFile_2 d i n1 Q := by
    intro k
    induction k with
    | zero =>
      intro i n1 hi i0 hf hx
      apply xr_m_readFile_2
      rw [if_neg (by omega)]
      have nb : ∀ a x : Int, a ≠ 428 → (w_up (w_up n1 428 60 0) 428 61 0) a x = n1 a x := fun a x q => by rw [w_up_ne q, w_up_ne q]
      refine hQ _ (fun a b q1 q2 => ?_) ⟨by rw [w_up_nb (by decide), w_up_eq], by rw [w_up_eq], fun x x0 x1 => ?_⟩
      · unfold w_up
        rw [if_neg (by omega), if_neg (by omega)]
        exact hf a b q1 q2
      · rw [nb _ _ (by decide), nb _ _ (by decide), nb _ _ (by decide), nb _ _ (by decide), nb _ _ (by decide), nb _ _ (by decide)]
        exact hx x x0 (by omega)
    | succ k ih =>
      intro i n1 hi i0 hf hx
      apply xr_m_readFile_2
      rw [if_pos (by omega), w_32_id (x := i + 1) (by omega) (by omega), w_8_id (x := 0) (by decide) (by decide)]
      refine ⟨by omega, by omega, by omega, by omega, by omega, by omega, ?_⟩
      refine ih (i + 1) _ (by omega) (by omega) (fun a b q1 q2 => ?_) (fun x x0 x1 => ?_)
      · unfold w_up
        rw [if_neg (by omega), if_neg (by omega), if_neg (by omega), if_neg (by omega), if_neg (by omega), if_neg (by omega)]
        exact hf a b q1 q2
      · by_cases z : x = i
        · subst z
          refine ⟨?_, ?_, ?_, ?_, ?_, ?_⟩
          · rw [w_up_ne (by decide), w_up_ne (by decide), w_up_ne (by decide), w_up_ne (by decide), w_up_ne (by decide), w_up_eq]
          · rw [w_up_ne (by decide), w_up_ne (by decide), w_up_ne (by decide), w_up_ne (by decide), w_up_eq]
          · rw [w_up_eq]
          · rw [w_up_ne (by decide), w_up_ne (by decide), w_up_ne (by decide), w_up_eq]
          · rw [w_up_ne (by decide), w_up_ne (by decide), w_up_eq]
          · rw [w_up_ne (by decide), w_up_eq]
        · have nb : ∀ c : Int, (w_up (w_up (w_up (w_up (w_up (w_up n1 451 i 0) 454 i 0) 456 i 0) 457 i 0) 460 i 0) 455 i (-1)) c x = n1 c x := by
            intro c
            unfold w_up
            rw [if_neg (by omega), if_neg (by omega), if_neg (by omega), if_neg (by omega), if_neg (by omega), if_neg (by omega)]
          rw [nb, nb, nb, nb, nb, nb]
          exact hx x x0 (by omega)
  exact key 200 0 n (by decide) (by decide) (fun _ _ _ _ => rfl) (fun x x0 x1 => by omega)
theorem r_nsse {B : Int} (hB : 0 ≤ B ∧ B ≤ 2147483647) : w_ns [(2, 391), (0, B), (2, 395)] := by
  intro v hv
  rcases List.mem_cons.mp hv with e | hv
  · subst e; show (0 : Int) ≤ 391; decide
  · rcases List.mem_cons.mp hv with e | hv
    · subst e; show -2147483648 ≤ B ∧ B < 2147483648; omega
    · rcases List.mem_cons.mp hv with e | hv
      · subst e; show (0 : Int) ≤ 395; decide
      · cases hv
/-- all sections -/
theorem s_secs : ∀ (k : Nat) (g : s_g) (m n : w_M) (v : Int), e_Y g m n W L → w_nm (w_G0 sC) m → n 428 61 + k = 10 → -1 ≤ v → v ≤ 2147483647 → (v = -1 → 1 ≤ n 428 61) →
    xp_m_readFile_195 (d + 61) v n (fun _ n1 => ∃ m1, e_pq m n W L m1 n1 ∧ ∀ X, xp_x_load_84 (d + 60) m1 X → xp_x_load_52 (d + 60) v (n 428 61) m X) := by
  intro k
  induction k with
  | zero =>
    intro g m n v h hm hk v0 v1 vn
    have h27 := h.1.2.2.2.2.2.2.2.1
    have j0 := h.2.2.2.1
    apply xr_m_readFile_195
    refine sp_m_good (d := d + 60) ?_
    rw [show f_m_good n = 1 from if_pos h27, if_neg (by decide)]
    by_cases q : v < 0
    · rw [if_pos q]
      refine ⟨m, ⟨hm, l_cf.rf, l_mf.rf, Or.inr ⟨g, h, vn (by omega)⟩⟩, fun X hX => ?_⟩
      apply xr_x_load_52
      rw [if_neg (by omega), if_pos q]
      exact hX
    · rw [if_neg q]
      refine w_C.more (s_section (d := d) h hm (B := v) ⟨by omega, v1⟩) (fun r' n1 hr => ?_)
      obtain ⟨r, m1, y1, y2, y3⟩ := r_get hr hm (r_nsse ⟨by omega, v1⟩)
      obtain ⟨z1, z2, z3⟩ := y3
      rcases z3 with ⟨z3, z4, z5⟩ | ⟨_, _, _, z6, g', z7⟩
      · refine r_rf_0 (d := d + 60) z5 ⟨m1, ⟨y2, z1, z2, Or.inl ⟨z4, z5⟩⟩, fun X hX => ?_⟩
        apply xr_x_load_52
        rw [if_neg (by omega), if_neg q]
        refine w_C.to y1 ?_
        apply xr_x_load_52
        by_cases q2 : 10 < w_32 (n 428 61 + 1)
        · rw [if_pos q2]; exact hX
        · rw [if_neg q2, if_pos (by omega)]; exact hX
      · have := z7.2.2.2.1
        omega
  | succ k ih =>
    intro g m n v h hm hk v0 v1 vn
    have h27 := h.1.2.2.2.2.2.2.2.1
    have j0 := h.2.2.2.1
    apply xr_m_readFile_195
    refine sp_m_good (d := d + 60) ?_
    rw [show f_m_good n = 1 from if_pos h27, if_neg (by decide)]
    by_cases q : v < 0
    · rw [if_pos q]
      refine ⟨m, ⟨hm, l_cf.rf, l_mf.rf, Or.inr ⟨g, h, vn (by omega)⟩⟩, fun X hX => ?_⟩
      apply xr_x_load_52
      rw [if_neg (by omega), if_pos q]
      exact hX
    · rw [if_neg q]
      refine w_C.more (s_section (d := d) h hm (B := v) ⟨by omega, v1⟩) (fun r' n1 hr => ?_)
      obtain ⟨r, m1, y1, y2, y3⟩ := r_get hr hm (r_nsse ⟨by omega, v1⟩)
      obtain ⟨z1, z2, z3⟩ := y3
      rcases z3 with ⟨z3, z4, z5⟩ | ⟨z3, z4, z5, z6, g', z7⟩
      · refine r_rf_0 (d := d + 60) z5 ⟨m1, ⟨y2, z1, z2, Or.inl ⟨z4, z5⟩⟩, fun X hX => ?_⟩
        apply xr_x_load_52
        rw [if_neg (by omega), if_neg q]
        refine w_C.to y1 ?_
        apply xr_x_load_52
        by_cases q2 : 10 < w_32 (n 428 61 + 1)
        · rw [if_pos q2]; exact hX
        · rw [if_neg q2, if_pos (by omega)]; exact hX
      · subst z3
        refine w_W.more (ih g' m1 n1 r z7 y2 (by omega) z4 z5 (fun _ => by omega)) (fun _ n2 hn2 => ?_)
        obtain ⟨m2, ⟨a1, a2, a3, a4⟩, a5⟩ := hn2
        refine ⟨m2, ⟨a1, z1.tr a2, z2.tr a3, a4⟩, fun X hX => ?_⟩
        apply xr_x_load_52
        rw [if_neg (by omega), if_neg q]
        refine w_C.to y1 ?_
        rw [w_32_id (x := n 428 61 + 1) (by omega) (by omega), ← z6]
        exact a5 X hX
end SX
