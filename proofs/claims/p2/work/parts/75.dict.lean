/-! ===== dicts: what stands in a name's place; a name that comes twice, in the reference ===== -/
theorem m_tk.k9 {n : w_M} {W : Int → Int} {L p : Int} (h : m_tk n W L p) : (n 428 22 = 9 → W p = 62 ∧ W (p + 1) = 62) ∧ (W p = 62 ∧ W (p + 1) = 62 → n 428 22 = 9 ∧ n 428 21 = p + 2) := by
  obtain ⟨h0, h⟩ := h
  rcases h with h | ⟨h, r, _⟩ | ⟨h, r⟩ | ⟨h, r⟩ | h | h | h | h | h
  · exact ⟨fun z => by omega, fun z => by omega⟩
  · refine ⟨fun z => ?_, fun z => by omega⟩
    obtain ⟨r1, r2, r3⟩ := r
    by_cases y : g_kd (g_s W p (g_len W (L - p).toNat p)) = -1
    · have := (r2 y).1; omega
    · rcases r3 y with w | w
      · omega
      · have := w.2.2
        split at this <;> omega
  · refine ⟨fun z => ?_, fun z => by clear r; omega⟩
    rcases r with ⟨_, _, _, r⟩ | ⟨_, _, _, _, _, _, _, _, r⟩
    · omega
    · split at r <;> omega
  · refine ⟨fun z => ?_, fun z => by clear r; omega⟩
    rcases r with ⟨_, _, _, r⟩ | ⟨_, _, _, _, _, _, _, _, r⟩
    · omega
    · split at r <;> omega
  · exact ⟨fun z => by omega, fun z => by omega⟩
  · exact ⟨fun _ => ⟨h.1, h.2.1⟩, fun _ => h.2.2⟩
  · exact ⟨fun z => by omega, fun z => by omega⟩
  · exact ⟨fun z => by omega, fun z => by omega⟩
  · exact ⟨fun z => by omega, fun z => by omega⟩
theorem g_kd_0 {W : Int → Int} {L p : Int} (h : ¬ b_reg (W p)) : g_kd (g_s W p (g_len W (L - p).toNat p)) = -1 := by
  rw [g_len_0 h]
  rfl
/-- no name, no end: the fault of both -/
theorem m_tk.nokey {n : w_M} {W : Int → Int} {L p c : Int} (h : m_tk n W L p) (h47 : W p ≠ 47) (h62 : ¬ (W p = 62 ∧ W (p + 1) = 62)) (hk : u_k W L p c) : n 428 22 ≠ 9 ∧ n 428 22 ≠ 4 ∧ ((n 428 22 = 11 ∧ c = 5) ∨ (n 428 22 ≠ 11 ∧ c = 4)) := by
  obtain ⟨h0, h⟩ := h
  have row : ¬ b_reg (W p) → ¬ (W p = 40 ∨ (W p = 60 ∧ W (p + 1) ≠ 60)) → c = 4 := by
    intro y1 y2
    have e := g_kd_0 (L := L) y1
    unfold u_k at hk
    rcases hk with ⟨hk, _⟩ | ⟨_, hk⟩
    · exact absurd hk y2
    · rcases hk with hk | hk | hk
      · exact hk.2
      · exact absurd e hk.1
      · exact hk.2.2
  rcases h with h | ⟨h, r, _⟩ | ⟨h, r⟩ | ⟨h, r⟩ | h | h | h | h | h
  · have := row (by omega) (by omega); omega
  · obtain ⟨r1, r2, r3⟩ := r
    unfold u_k at hk
    rcases hk with ⟨hk, ex⟩ | ⟨_, hk⟩
    · clear ex row; omega
    · rcases hk with hk | hk | hk
      · have := (r2 hk.1).1
        omega
      · rcases r3 hk.1 with w | w
        · omega
        · exact absurd hk.2.1 w.1
      · rcases r3 hk.1 with w | w
        · exact absurd w.2 hk.2.1
        · have := w.2.2
          split at this <;> omega
  · exact absurd h h47
  · unfold u_k at hk
    rcases hk with ⟨_, hk⟩ | ⟨hk, _⟩
    · rcases r with ⟨e1, l1, r1, r2⟩ | ⟨e1, l1, r1, r2, r3, r4, r5, r6, r7⟩
      · rcases hk with ⟨e2, l2, k1, k2⟩ | ⟨e2, l2, K, k1, k2, k3⟩
        · omega
        · rw [r1] at k1; cases k1
      · rcases hk with ⟨e2, l2, k1, k2⟩ | ⟨e2, l2, K, k1, k2, k3⟩
        · rw [r1] at k1; cases k1
        · rw [r1] at k1
          cases k1
          have e26 := r5.1
          rw [e26, ← k2] at r7
          clear e26 r5 r4 k2
          by_cases q : 2000 < K
          · rw [if_pos q] at r7 k3; omega
          · rw [if_neg q] at r7 k3; omega
    · exact absurd h hk
  · have := row (by omega) (by omega); omega
  · exact absurd ⟨h.1, h.2.1⟩ h62
  · have := row (by omega) (by omega); omega
  · have := row (by omega) (by omega); omega
  · have := row h.2.2.1 (by omega); omega
/-- an entry has the token's name -/
def s_kt (n : w_M) (y : Int) : Prop := n 439 y = n 428 26 ∧ ∀ i, 0 ≤ i → i < n 439 y → n 440 (n 438 y + i) = n 440 (n 428 17 + i)
section DK
variable {g : s_g} {m n n' : w_M} {N P L p y x D refs a z : Int} {W : Int → Int} {l : List Int} {Q : Int → w_M → Prop} {d : Nat}
theorem s_eq_kt {kk K s S : Int} (hk : s_ky m n kk y s) (hk0 : 0 ≤ kk) (hS : m 362 K = S) (hb : ∀ i, 0 ≤ i → i < S → m 365 (m 361 K + i) = n 440 (z + i)) : s_eq m kk K ↔ (s = S ∧ ∀ i, 0 ≤ i → i < s → n 440 (y + i) = n 440 (z + i)) := by
  rcases hk with hk | ⟨a1, a2, a3, a4, b1, b2, b3, b4, b5, b6⟩
  · omega
  · unfold s_eq
    rw [a4, hS]
    constructor
    · intro h
      refine ⟨h.1, fun i i0 i1 => ?_⟩
      rw [← (b6 i i0 i1).1, ← hb i i0 (by omega)]
      exact h.2 i i0 i1
    · intro h
      refine ⟨h.1, fun i i0 i1 => ?_⟩
      rw [(b6 i i0 i1).1, hb i i0 (by omega)]
      exact h.2 i i0 i1
theorem r_twice_100 {l1 l2 l3 l4 : Int} (hy : 0 ≤ y ∧ y < 40000) (hb : 0 ≤ n 438 y ∧ n 438 y + n 439 y ≤ 150000) (h26 : 0 ≤ n 428 26 ∧ n 428 26 ≤ 150000) (h17 : 0 ≤ n 428 17 ∧ n 428 17 + n 428 26 ≤ 150000) (he : n 439 y = n 428 26)
    (h1 : s_kt n y → xp_m_dict_71 (d + 1) l1 l2 l3 l4 (n 437 y) (m_fl n 5 (n 428 23)) Q) (h0 : ¬ s_kt n y → xp_m_dict_71 (d + 1) l1 l2 l3 l4 (n 437 y) n Q) :
    ∀ (k : Nat) (i : Int), 0 ≤ i → i + k = n 428 26 → (∀ j, 0 ≤ j → j < i → n 440 (n 438 y + j) = n 440 (n 428 17 + j)) → xp_m_dict_100 (d + 1) l1 l2 l3 l4 y 1 i n Q := by
  intro k
  induction k with
  | zero =>
    intro i i0 i1 hi
    apply xr_m_dict_100
    rw [if_neg (by omega), if_neg (by decide)]
    refine sp_m_fail (Q := fun _ m1 => ((0 : Int) ≤ y ∧ y < 40000) ∧ (xp_m_dict_71 (d + 1) l1 l2 l3 l4 (m1 437 y) m1 Q)) ⟨hy, ?_⟩
    rw [m_fl_o (by omega)]
    exact h1 ⟨he, fun j j0 j1 => hi j j0 (by omega)⟩
  | succ k ih =>
    intro i i0 i1 hi
    apply xr_m_dict_100
    rw [if_pos (by omega), if_neg (by decide), w_32_id (x := n 438 y + i) (by omega) (by omega), w_32_id (x := n 428 17 + i) (by omega) (by omega), w_32_id (x := i + 1) (by omega) (by omega)]
    refine ⟨hy, by omega, by omega, ?_⟩
    by_cases q : n 440 (n 438 y + i) = n 440 (n 428 17 + i)
    · rw [if_pos q]
      refine ih (i + 1) (by omega) (by omega) (fun j j0 j1 => ?_)
      by_cases z : j = i
      · rw [z]; exact q
      · exact hi j j0 (by omega)
    · rw [if_neg q]
      have nk : ¬ s_kt n y := fun z => q (z.2 i i0 (by omega))
      apply xr_m_dict_100
      by_cases w : i + 1 < n 428 26
      · rw [if_pos w, if_pos rfl, if_pos rfl]
        exact ⟨hy, h0 nk⟩
      · rw [if_neg w, if_pos rfl]
        exact ⟨hy, h0 nk⟩
theorem m_fl_fl {c p : Int} (hc : c ≠ 0) : m_fl (m_fl n c p) c p = m_fl n c p := by
  have : m_fl n c p 428 27 ≠ 0 := by
    unfold m_fl
    split
    · rw [w_up_nb (by decide), w_up_eq]; exact hc
    · assumption
  show (if m_fl n c p 428 27 = 0 then _ else m_fl n c p) = _
  rw [if_neg this]
theorem s_kt_fl {c p : Int} : s_kt (m_fl n c p) y ↔ s_kt n y := by
  have e : ∀ i j : Int, ¬ (i = 428 ∧ (j = 27 ∨ j = 28)) → m_fl n c p i j = n i j := fun i j h => m_fl_o h
  unfold s_kt
  rw [e 439 _ (by omega), e 438 _ (by omega), e 428 26 (by omega), e 428 17 (by omega)]
  constructor
  · intro h
    refine ⟨h.1, fun i i0 i1 => ?_⟩
    have := h.2 i i0 i1
    rw [e 440 _ (by omega), e 440 _ (by omega)] at this
    exact this
  · intro h
    refine ⟨h.1, fun i i0 i1 => ?_⟩
    rw [e 440 _ (by omega), e 440 _ (by omega)]
    exact h.2 i i0 i1
/-- the whole row of entries -/
theorem r_twice {l1 l2 l3 l4 : Int} (hN : N ≤ 40000) : ∀ (suf : List Int) (x : Int) (n : w_M), s_ch n N x suf → (∀ y ∈ suf, 0 ≤ n 438 y ∧ n 438 y + n 439 y ≤ 150000) → (0 ≤ n 428 26 ∧ n 428 26 ≤ 150000) → (0 ≤ n 428 17 ∧ n 428 17 + n 428 26 ≤ 150000) → n 428 23 = p →
    (∀ n', ((∃ y ∈ suf, s_kt n y) ∧ n' = m_fl n 5 p) ∨ ((∀ y ∈ suf, ¬ s_kt n y) ∧ n' = n) → xp_m_dict_71 (d + 1) l1 l2 l3 l4 (-1) n' Q) → xp_m_dict_71 (d + 1) l1 l2 l3 l4 x n Q := by
  intro suf
  induction suf with
  | nil =>
    intro x n h1 h2 h3 h4 h5 hQ
    have h1 : x = -1 := h1
    rw [h1]
    exact hQ n (Or.inr ⟨fun y hy => (by cases hy), rfl⟩)
  | cons y suf ih =>
    intro x n h1 h2 h3 h4 h5 hQ
    obtain ⟨c1, c2, c3, c4⟩ := h1
    subst c1
    have hb := h2 x (List.mem_cons_self ..)
    have yes : s_kt n x → xp_m_dict_71 (d + 1) l1 l2 l3 l4 (n 437 x) (m_fl n 5 (n 428 23)) Q := by
      intro q
      rw [h5]
      have e : ∀ i j : Int, ¬ (i = 428 ∧ (j = 27 ∨ j = 28)) → m_fl n 5 p i j = n i j := fun i j h => m_fl_o h
      refine ih (n 437 x) (m_fl n 5 p) (c4.fr (Int.le_refl _) (fun w _ => e _ _ (by omega))) (fun w hw => ?_) ?_ ?_ ?_ (fun n' hn' => hQ n' (Or.inl ⟨⟨x, List.mem_cons_self .., q⟩, ?_⟩))
      · rw [e _ _ (by omega), e _ _ (by omega)]; exact h2 w (List.mem_cons_of_mem _ hw)
      · rw [e _ _ (by omega)]; exact h3
      · rw [e _ _ (by omega), e _ _ (by omega)]; exact h4
      · rw [e _ _ (by omega)]; exact h5
      · rcases hn' with ⟨_, w⟩ | ⟨_, w⟩
        · rw [w, m_fl_fl (by decide)]
        · exact w
    have no : ¬ s_kt n x → xp_m_dict_71 (d + 1) l1 l2 l3 l4 (n 437 x) n Q := by
      intro q
      refine ih (n 437 x) n c4 (fun w hw => h2 w (List.mem_cons_of_mem _ hw)) h3 h4 h5 (fun n' hn' => hQ n' ?_)
      rcases hn' with ⟨⟨w, hw, w1⟩, w2⟩ | ⟨w1, w2⟩
      · exact Or.inl ⟨⟨w, List.mem_cons_of_mem _ hw, w1⟩, w2⟩
      · refine Or.inr ⟨fun w hw => ?_, w2⟩
        rcases List.mem_cons.mp hw with e | hw
        · rw [e]; exact q
        · exact w1 w hw
    apply xr_m_dict_71
    rw [if_neg (by omega)]
    refine ⟨by omega, ?_⟩
    by_cases q : n 439 x = n 428 26
    · rw [if_pos q]
      exact r_twice_100 ⟨by omega, by omega⟩ hb h3 h4 q yes no (n 428 26).toNat 0 (by decide) (by omega) (fun j j0 j1 => by omega)
    · rw [if_neg q]
      have nk : ¬ s_kt n x := fun z => q z.1
      apply xr_m_dict_100
      by_cases w : (0 : Int) < n 428 26
      · rw [if_pos w, if_pos rfl, if_pos rfl]
        exact ⟨by omega, no nk⟩
      · rw [if_neg w, if_pos rfl]
        exact ⟨by omega, no nk⟩
end DK
