/-! ===== the loader: a stream's bytes end: the reference ===== -/
def l_79 (n n' : w_M) : Prop := ∀ i j : Int, ¬ (i = 428 ∧ ((21 ≤ j ∧ j ≤ 26) ∨ j = 79)) → ¬ (i = 440 ∧ n 428 17 ≤ j ∧ j < 140000) → n' i j = n i j
def l_r9 (n n' : w_M) (k : Int) : Prop := ∀ i j : Int, ¬ (i = 428 ∧ ((21 ≤ j ∧ j ≤ 28) ∨ j = 79)) → ¬ (i = 440 ∧ n 428 17 ≤ j ∧ j < 140000) → ¬ ((i = 455 ∨ i = 456) ∧ j = k) → n' i j = n i j
theorem l_up {m : w_M} {i k v a b : Int} (h : ¬ (a = i ∧ b = k)) : w_up m i k v a b = m a b := if_neg h
section SC2
variable {d : Nat} {g g' : s_g} {m m' m1 n n' n1 n2 : w_M} {Q : Int → w_M → Prop} {W : Int → Int} {L p k v x y P r b len : Int}
theorem l_79.k17 (h : l_79 n n') : n' 428 17 = n 428 17 := h _ _ (by omega) (by omega)
theorem l_79.q1 (h : l_79 n n') : l_n1 n n' k := fun i j q1 q2 q3 => h i j (by omega) (by omega)
theorem l_r9.q1 (h : l_r9 n n' k) : l_n1 n n' k := fun i j q1 q2 q3 => h i j (by omega) (by omega) (by omega)
theorem l_79.mf (h : l_79 n n') : s_mf n n' := by
  have e1 := h 428 15 (by omega) (by omega)
  have e2 := h 428 17 (by omega) (by omega)
  exact ⟨by omega, by omega, fun a b q1 q2 _ _ => h a b (by omega) (by omega), fun b q => h 440 b (by omega) (by omega)⟩
theorem r_269 (hv : v_m n W L) (h18 : n 428 18 = 430 ∨ 440 < n 428 18) (h3 : n 428 3 = L) (hL : L ≤ 8000) (h17 : 0 ≤ n 428 17 ∧ n 428 17 ≤ 100000) (h27 : n 428 27 = 0) (hk : 0 ≤ k ∧ k < 200) (hb : 0 ≤ b ∧ b ≤ L) (hlen : len < 2147483648)
    (HE : 0 ≤ len → len ≤ L - b → u_cl W L (b + len) → ∀ n', l_79 n n' → xc_m_keepStream (d + 7) k r P b len n' (fun _ m2 => (0 ≤ k ∧ k < 200) ∧ Q 0 (w_up m2 456 k (w_8 2))))
    (HF : ¬ (0 ≤ len ∧ len ≤ L - b ∧ u_cl W L (b + len)) → ∀ n', l_r9 n n' k → n' 428 27 ≠ 0 → Q 0 n') : xp_m_rawStream_269 (d + 6) P b len n (l_raw (d + 7) k P r Q) := by
  -- a fault
  have bad : ¬ (0 ≤ len ∧ len ≤ L - b ∧ u_cl W L (b + len)) → ∀ n1, m_ag n n1 → l_raw (d + 7) k P r Q b (w_up (m_fl n1 6 P) 428 79 len) := by
    intro z n1 f1
    have z27 : n1 428 27 = 0 := by rw [f1 _ _ (by omega) (by omega)]; exact h27
    have ne := m_fl_ne (c := 6) (v := P) z27 (by decide)
    refine r_raw_bad (d := d + 6) (by rw [w_up_nb (by decide)]; exact ne) hk (fun n' f' z' => HF z n' (fun i j q1 q2 q3 => ?_) z')
    rw [f' i j (by omega) (by rw [w_up_nb (by decide), m_fl_o (by omega), f1 428 17 (by omega) (by omega)]; exact q2) q3, l_up (by omega), m_fl_o (by omega)]
    exact f1 i j (by omega) q2
  apply xr_m_rawStream_269
  by_cases q0 : len < 0
  · rw [if_pos q0]
    refine sp_m_fail ?_
    exact bad (fun z => by omega) n m_ag.rf
  · rw [if_neg q0]
    apply xr_m_streamEnd
    rw [h3, w_32_id (x := L - b) (by omega) (by omega)]
    by_cases q3 : L - b < len
    · rw [if_pos q3, if_pos rfl]
      refine sp_m_fail ?_
      exact bad (fun z => by omega) n m_ag.rf
    · rw [if_neg q3, w_32_id (x := b + len) (by omega) (by omega)]
      have t2 : m_ag n (w_up n 428 21 (b + len)) := m_ag.rf.up (by decide)
      have gg : ∀ {n1 : w_M} {q : Int}, l_79 n n1 → n1 428 21 = q → 0 ≤ q → q ≤ L → e_G n1 W L q := by
        intro n1 q f e q0 q1
        refine ⟨⟨hv.far (fun j z1 z2 => f _ _ (by omega) (by omega)) (fun j => f _ _ (by omega) (by omega)), by omega, e, q0, q1⟩, by rw [f _ _ (by omega) (by omega)]; exact h18, by rw [f.k17]; exact h17.1, by rw [f.k17]; omega⟩
      have ag : ∀ {n1 : w_M}, m_ag n n1 → l_79 n n1 := fun f i j q1 q2 => f i j (by omega) q2
      have G2 : e_G (w_up n 428 21 (b + len)) W L (b + len) := gg (ag t2) w_up_eq (by omega) (by omega)
      refine r_tok (d := d) G2 (fun n3 t3 k3 => ?_)
      have t13 := t2.tr t3
      have k2 := e_kw_r (W := W) (L := L) (p := b + len) (by omega) (by omega)
      have v3 : v_m n3 W L := hv.ag (by omega) t13
      have z27 : n3 428 27 = 0 := by rw [t13 _ _ (by omega) (by omega)]; exact h27
      refine r_isW (d := d) k3 v3 t_mendstream (by decide) (by decide) (by omega) (fun w w21 => ⟨Or.inr rfl, ?_⟩) (fun w => ⟨Or.inl rfl, ?_⟩)
      · rw [if_neg (by decide)]
        have w21 : n3 428 21 = e_kw W L (b + len) + 9 := w21
        have in9 : e_kw W L (b + len) + 9 ≤ L := by
          have r := g_len_le W (L - e_kw W L (b + len)).toNat (e_kw W L (b + len))
          have := w.1
          have l9 : e_endstream.length = 9 := rfl
          omega
        obtain ⟨n4, hn4⟩ : ∃ n4, n4 = w_up n3 428 79 len := ⟨_, rfl⟩
        have f4 : l_79 n n4 := fun i j q1 q2 => by rw [hn4, l_up (by omega)]; exact t13 i j (by omega) q2
        have e479 : n4 428 79 = len := by rw [hn4, w_up_eq]
        have G4 : e_G n4 W L (e_kw W L (b + len) + 9) := gg f4 (by rw [hn4, w_up_nb (by decide)]; exact w21) (by omega) in9
        rw [← hn4]
        refine r_raw (d := d + 1) G4 (by rw [f4 _ _ (by omega) (by omega)]; exact h27) hk hb.1 (fun w2 n' f' => ?_) (fun w2 n' f' z' => ?_)
        · rw [e479]
          exact HE (by omega) (by omega) ⟨w, w2⟩ n' (fun i j q1 q2 => by rw [f' i j (by omega) (by rw [f4.k17]; exact q2)]; exact f4 i j q1 q2)
        · exact HF (fun z => w2 z.2.2.2) n' (fun i j q1 q2 q3 => by rw [f' i j (by omega) (by rw [f4.k17]; exact q2) q3]; exact f4 i j (by omega) q2) z'
      · rw [if_pos rfl]
        refine sp_m_fail ?_
        exact bad (fun z => w z.2.2.1) n3 t13
end SC2
