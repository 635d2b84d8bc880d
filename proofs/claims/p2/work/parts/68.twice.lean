/-! ===== the same bytes; a name that comes twice ===== -/
/-- a row of the class's nodes -/
def s_cc (m : w_M) : Int → List Int → Prop
  | _, [] => True
  | x, a :: l => x = a ∧ 0 ≤ a ∧ a < m 359 6 ∧ s_cc m (m 363 a) l
/-- two nodes of the class have the same bytes -/
def s_eq (m : w_M) (a b : Int) : Prop := m 362 a = m 362 b ∧ ∀ i, 0 ≤ i → i < m 362 a → m 365 (m 361 a + i) = m 365 (m 361 b + i)
/-- a node of the class that has bytes -/
def s_tn (m : w_M) (a : Int) : Prop := 0 ≤ a ∧ a < m 359 6 ∧ 0 ≤ m 361 a ∧ 0 ≤ m 362 a ∧ m 361 a + m 362 a ≤ 108612
/-- the number of the first k bytes from x on -/
def s_hs (m : w_M) (x : Int) : Nat → Int
  | 0 => 0
  | k + 1 => w_32 (w_32 (s_hs m x k * 31) + m 365 (x + k) % 256)
section TW
variable {d : Nat} {m m' n : w_M} {P L p a b K c0 : Int} {W : Int → Int} {Q : Int → w_M → Prop} {g : s_g} {la l : List Int}
theorem s_hs_eq {x y : Int} : ∀ k : Nat, (∀ i, 0 ≤ i → i < (k : Int) → m 365 (x + i) = m' 365 (y + i)) → s_hs m x k = s_hs m' y k := by
  intro k
  induction k with
  | zero => intro _; rfl
  | succ k ih =>
    intro h
    show w_32 (w_32 (s_hs m x k * 31) + m 365 (x + k) % 256) = w_32 (w_32 (s_hs m' y k * 31) + m' 365 (y + k) % 256)
    rw [ih (fun i i0 i1 => h i i0 (by omega)), h k (by omega) (by omega)]
theorem sp_same_77 (ha : s_tn m a) (hb : s_tn m b) (hC : m 359 6 ≤ 16564) (he : m 362 a = m 362 b) (h1 : s_eq m a b → Q 1 m) (h0 : ¬ s_eq m a b → Q 0 m) :
    ∀ (k : Nat) (i : Int), 0 ≤ i → i + k = m 362 a → (∀ j, 0 ≤ j → j < i → m 365 (m 361 a + j) = m 365 (m 361 b + j)) → xp_st_same_77 (d + 1) a (m 361 a) (m 361 b) i m Q := by
  obtain ⟨a1, a2, a3, a4, a5⟩ := ha
  obtain ⟨b1, b2, b3, b4, b5⟩ := hb
  intro k
  induction k with
  | zero =>
    intro i i0 i1 hi
    apply xr_st_same_77
    refine ⟨by omega, ?_⟩
    rw [if_neg (by omega)]
    exact h1 ⟨he, fun j j0 j1 => hi j j0 (by omega)⟩
  | succ k ih =>
    intro i i0 i1 hi
    apply xr_st_same_77
    refine ⟨by omega, ?_⟩
    rw [if_pos (by omega), if_neg (by omega), if_neg (by omega), w_32_id (x := m 361 a + i) (by omega) (by omega), w_32_id (x := m 361 b + i) (by omega) (by omega), if_pos (by omega), if_pos (by omega)]
    refine ⟨by omega, by omega, ?_⟩
    by_cases q : m 365 (m 361 a + i) = m 365 (m 361 b + i)
    · rw [if_pos q, w_32_id (by omega) (by omega)]
      refine ih (i + 1) (by omega) (by omega) (fun j j0 j1 => ?_)
      by_cases z : j = i
      · rw [z]; exact q
      · exact hi j j0 (by omega)
    · rw [if_neg q]
      exact h0 (fun z => q (z.2 i i0 (by omega)))
theorem sp_same (ha : s_tn m a) (hb : s_tn m b) (hC : m 359 6 ≤ 16564) (h1 : s_eq m a b → Q 1 m) (h0 : ¬ s_eq m a b → Q 0 m) : xc_st_same (d + 2) a b m Q := by
  have ha' := ha
  have hb' := hb
  obtain ⟨a1, a2, a3, a4, a5⟩ := ha
  obtain ⟨b1, b2, b3, b4, b5⟩ := hb
  apply xr_st_same
  rw [if_neg (by omega), if_neg (by omega), if_pos a2, if_pos b2, if_pos (by omega), if_pos (by omega)]
  refine ⟨by omega, by omega, ?_⟩
  by_cases q : m 362 a = m 362 b
  · rw [if_pos q]
    refine ⟨by omega, by omega, ?_⟩
    exact sp_same_77 ha' hb' hC q h1 h0 (m 362 a).toNat 0 (by decide) (by omega) (fun j j0 j1 => by omega)
  · rw [if_neg q]
    exact h0 (fun z => q z.1)
/-- no node: never the same -/
theorem sp_same_n (ha : a < 0) (h0 : Q 0 m) : xc_st_same (d + 1) a b m Q := by
  apply xr_st_same
  rw [if_pos ha]
  exact h0
-- what a node of the class says of itself
theorem f_kind_v (h : 0 ≤ a ∧ a < m 359 6) (hC : m 359 6 ≤ 16564) : f_st_kindOf m a = m 360 a := by
  unfold f_st_kindOf
  rw [if_neg (by omega), if_pos (by omega), if_pos (by omega)]
theorem f_one_v (h : 0 ≤ a ∧ a < m 359 6) (hC : m 359 6 ≤ 16564) : f_st_oneOf m a = m 361 a := by
  unfold f_st_oneOf
  rw [if_neg (by omega), if_pos (by omega), if_pos (by omega)]
theorem f_two_v (h : 0 ≤ a ∧ a < m 359 6) (hC : m 359 6 ≤ 16564) : f_st_twoOf m a = m 362 a := by
  unfold f_st_twoOf
  rw [if_neg (by omega), if_pos (by omega), if_pos (by omega)]
theorem f_next_v (h : 0 ≤ a ∧ a < m 359 6) (hC : m 359 6 ≤ 16564) : f_st_nextOf m a = m 363 a := by
  unfold f_st_nextOf
  rw [if_neg (by omega), if_pos (by omega), if_pos (by omega)]
theorem f_key_v (h : 0 ≤ a ∧ a < m 359 6) (hC : m 359 6 ≤ 16564) : f_st_keyOf m a = m 364 a := by
  unfold f_st_keyOf
  rw [if_neg (by omega), if_pos (by omega), if_pos (by omega)]
theorem f_holds_v (h : 0 ≤ a ∧ a < m 359 6) (hC : m 359 6 ≤ 16564) : f_st_holds m a = 1 := by
  unfold f_st_holds
  rw [if_neg (by omega), if_pos (by omega), if_pos (by omega)]
theorem f_parts_v (h : 0 ≤ a ∧ a < m 359 6) (hC : m 359 6 ≤ 16564) (hk : m 360 a = 6 ∨ m 360 a = 7) : f_st_parts m a = m 362 a := by
  unfold f_st_parts
  rw [if_neg (by omega), if_pos (by omega), if_pos (by omega)]
  rcases hk with q | q
  · rw [if_pos q]
  · rw [if_neg (by omega), if_pos q]
theorem f_first_v (h : 0 ≤ a ∧ a < m 359 6) (hC : m 359 6 ≤ 16564) (hk : m 360 a = 6 ∨ m 360 a = 7) : f_st_firstPart m a = m 361 a := by
  unfold f_st_firstPart
  rw [if_neg (by omega), if_pos (by omega), if_pos (by omega)]
  rcases hk with q | q
  · rw [if_pos q]
  · rw [if_neg (by omega), if_pos q]
theorem sp_link (h : 0 ≤ a ∧ a < m 359 6) (hC : m 359 6 ≤ 16564) (hQ : Q 0 (w_up m 363 a b)) : xc_st_link (d + 2) a b m Q := by
  apply xr_st_link
  refine sp_st_holds ?_
  rw [f_holds_v h hC, if_neg (by decide)]
  exact ⟨by omega, hQ⟩
theorem sp_link_n (h : a < 0) (hQ : Q 0 m) : xc_st_link (d + 2) a b m Q := by
  apply xr_st_link
  refine sp_st_holds ?_
  have e : f_st_holds m a = 0 := by unfold f_st_holds; rw [if_pos h]
  rw [e, if_pos rfl]
  exact hQ
theorem sp_st_name1 (h : 0 ≤ a ∧ a < m 359 6) (hC : m 359 6 ≤ 16564) (hQ : Q 0 (w_up m 364 a b)) : xc_st_name (d + 2) a b m Q := by
  apply xr_st_name
  refine sp_st_holds ?_
  rw [f_holds_v h hC, if_neg (by decide)]
  exact ⟨by omega, hQ⟩
theorem sp_setParts {c : Int} (h : 0 ≤ a ∧ a < m 359 6) (hC : m 359 6 ≤ 16564) (hQ : Q 0 (w_up (w_up m 361 a b) 362 a c)) : xc_st_setParts (d + 2) a b c m Q := by
  apply xr_st_setParts
  refine sp_st_holds ?_
  rw [f_holds_v h hC, if_neg (by decide)]
  exact ⟨by omega, by omega, hQ⟩
theorem f_lets_v (h : 0 ≤ a ∧ a < m 359 6) (hC : m 359 6 ≤ 16564) (hk : m 360 a = 4 ∨ m 360 a = 5) : f_st_letters m a = m 362 a := by
  unfold f_st_letters
  rw [if_neg (by omega), if_pos (by omega), if_pos (by omega)]
  rcases hk with q | q
  · rw [if_pos q]
  · rw [if_neg (by omega), if_pos q]
theorem sp_letter {i : Int} (ht : s_tn m a) (hC : m 359 6 ≤ 16564) (hk : m 360 a = 4 ∨ m 360 a = 5) (hi : 0 ≤ i ∧ i < m 362 a) (hQ : Q (m 365 (m 361 a + i) % 256) m) : xc_st_letterOf (d + 2) a i m Q := by
  obtain ⟨a1, a2, a3, a4, a5⟩ := ht
  apply xr_st_letterOf
  rw [if_neg (by omega)]
  refine sp_st_letters ?_
  rw [f_lets_v ⟨a1, a2⟩ hC hk, if_pos hi.2]
  refine sp_st_oneOf ?_
  rw [f_one_v ⟨a1, a2⟩ hC, w_32_id (by omega) (by omega), if_neg (by omega), if_pos (by omega)]
  exact ⟨by omega, hQ⟩
/-- a name of a dict's entries: it was numbered -/
def s_kn (m : w_M) (K : Int) (y : Int) : Prop := 0 ≤ y ∧ y < m 359 6 ∧ y ≠ K ∧ s_tn m (m 364 y) ∧ m 364 y ≠ K ∧ m 363 (m 364 y) = s_hs m (m 361 (m 364 y)) (m 362 (m 364 y)).toNat
theorem sp_isTwice_69 (hP : w_isP P) (hC : m 359 6 ≤ 16564) (hK : s_tn m K) {H : Int} (hH : H = s_hs m (m 361 K) (m 362 K).toNat)
    (hQ : ∀ r, (r = 1 ∧ ∃ y ∈ la, s_eq m (m 364 y) K) ∨ (r = 0 ∧ ∀ y ∈ la, ¬ s_eq m (m 364 y) K) → Q r (w_up m 363 K H)) :
    ∀ (suf : List Int) (x : Int) (pre : List Int), la = pre ++ suf → (∀ y ∈ pre, ¬ s_eq m (m 364 y) K) → (∀ y ∈ suf, s_kn m K y) → s_cc m x suf → (suf.length : Int) ≤ 20000 → xp_ps_isTwice_69 (d + 3) P K H x suf.length (w_up m 363 K H) Q := by
  intro suf
  induction suf with
  | nil =>
    intro x pre e1 e2 e3 e4 _
    apply xr_ps_isTwice_69 hP
    rw [if_neg (by show ¬ (0 : Int) < ((0 : Nat) : Int); decide)]
    refine hQ 0 (Or.inr ⟨rfl, fun y hy => e2 y ?_⟩)
    rw [e1, List.append_nil] at hy
    exact hy
  | cons y suf ih =>
    intro x pre e1 e2 e3 e4 e5
    obtain ⟨k1, k2, k3, k4, k5, k6⟩ := e3 y (List.mem_cons_self ..)
    obtain ⟨f1, f2, f3, f4⟩ := e4
    subst f1
    have el : (((x :: suf).length : Nat) : Int) = (suf.length : Int) + 1 := by rw [List.length_cons]; omega
    rw [el] at e5 ⊢
    have z1 : w_up m 363 K H 359 6 = m 359 6 := w_up_ne (by decide)
    have zC : w_up m 363 K H 359 6 ≤ 16564 := by rw [z1]; exact hC
    have z2 : ∀ (i j : Int), i ≠ 363 → w_up m 363 K H i j = m i j := fun i j q => w_up_ne q
    have z3 : ∀ (j : Int), j ≠ K → w_up m 363 K H 363 j = m 363 j := fun j q => w_up_nb q
    have go : ¬ s_eq m (m 364 x) K → xc_st_nextOf (d + 2 + 1) x (w_up m 363 K H) (fun r4 m4 => xp_ps_isTwice_69 (d + 3) P K H r4 (w_32 ((suf.length : Int) + 1 + (-1))) m4 Q) := by
      intro q
      refine sp_st_nextOf ?_
      rw [f_next_v ⟨k1, by rw [z1]; exact k2⟩ zC, z3 x k3, w_32_id (by omega) (by omega), show (suf.length : Int) + 1 + (-1) = suf.length by omega]
      refine ih _ (pre ++ [x]) (by rw [e1, List.append_assoc]; rfl) (fun w hw => ?_) (fun w hw => e3 w (List.mem_cons_of_mem _ hw)) f4 (by omega)
      rcases List.mem_append.mp hw with hw | hw
      · exact e2 w hw
      · rw [List.mem_singleton.mp hw]; exact q
    apply xr_ps_isTwice_69 hP
    rw [if_pos (by omega), if_neg (by omega)]
    refine sp_st_keyOf ?_
    rw [f_key_v ⟨k1, by rw [z1]; exact k2⟩ zC, z2 364 x (by decide)]
    refine sp_st_nextOf ?_
    rw [f_next_v ⟨k4.1, by rw [z1]; exact k4.2.1⟩ zC, z3 _ k5, k6]
    have tn : ∀ a, s_tn m a → s_tn (w_up m 363 K H) a := by
      intro a h
      unfold s_tn at h ⊢
      rw [z1, z2 361 a (by decide), z2 362 a (by decide)]
      exact h
    have eqv : ∀ a, s_eq (w_up m 363 K H) a K ↔ s_eq m a K := by
      intro a
      unfold s_eq
      simp only [z2 361 _ (by decide), z2 362 _ (by decide), z2 365 _ (by decide)]
    by_cases q : s_hs m (m 361 (m 364 x)) (m 362 (m 364 x)).toNat = H
    · rw [if_pos q]
      refine sp_same (d := d + 1) (tn _ k4) (tn _ hK) zC (fun w => ?_) (fun w => ?_)
      · rw [if_neg (by decide)]
        exact hQ 1 (Or.inl ⟨rfl, x, by rw [e1]; exact List.mem_append_right _ (List.mem_cons_self ..), (eqv _).1 w⟩)
      · rw [if_pos rfl]
        exact go (fun v => w ((eqv _).2 v))
    · rw [if_neg q]
      refine go (fun v => q ?_)
      rw [hH, v.1]
      refine s_hs_eq _ (fun i i0 i1 => v.2 i i0 ?_)
      have := v.1
      have := hK.2.2.2.1
      omega
theorem sp_isTwice (hP : w_isP P) (hC : m 359 6 ≤ 16564) (hK : s_tn m K) (hk4 : m 360 K = 4) (hc : 0 ≤ c0 ∧ c0 < m 359 6 ∧ m 360 c0 = 7 ∧ c0 ≠ K) (hla : m 362 c0 = la.length) (hcc : s_cc m (m 361 c0) la) (hkn : ∀ y ∈ la, s_kn m K y) (hlen : (la.length : Int) ≤ 20000)
    (hQ : ∀ r, (r = 1 ∧ ∃ y ∈ la, s_eq m (m 364 y) K) ∨ (r = 0 ∧ ∀ y ∈ la, ¬ s_eq m (m 364 y) K) → Q r (w_up m 363 K (s_hs m (m 361 K) (m 362 K).toNat))) : xc_ps_isTwice (d + 4) P c0 K m Q := by
  have hK' := hK
  obtain ⟨a1, a2, a3, a4, a5⟩ := hK
  have loop : ∀ (k : Nat) (i : Int), 0 ≤ i → i + k = m 362 K → xp_ps_isTwice_5 (d + 3) P c0 K (s_hs m (m 361 K) i.toNat) i m Q := by
    intro k
    induction k with
    | zero =>
      intro i i0 i1
      apply xr_ps_isTwice_5 hP
      refine sp_st_twoOf ?_
      rw [f_two_v ⟨a1, a2⟩ hC, if_neg (by omega), show i.toNat = (m 362 K).toNat by omega]
      refine sp_link ⟨a1, a2⟩ hC ?_
      refine sp_st_firstPart ?_
      have z1 : ∀ H, w_up m 363 K H 359 6 = m 359 6 := fun H => w_up_ne (by decide)
      rw [f_first_v ⟨hc.1, by rw [z1]; exact hc.2.1⟩ (by rw [z1]; exact hC) (Or.inr (by rw [w_up_ne (by decide)]; exact hc.2.2.1)), w_up_ne (by decide)]
      refine sp_st_parts ?_
      rw [f_parts_v ⟨hc.1, by rw [z1]; exact hc.2.1⟩ (by rw [z1]; exact hC) (Or.inr (by rw [w_up_ne (by decide)]; exact hc.2.2.1)), w_up_ne (by decide), hla]
      exact sp_isTwice_69 hP hC hK' rfl hQ la _ [] rfl (fun y hy => by cases hy) hkn hcc hlen
    | succ k ih =>
      intro i i0 i1
      apply xr_ps_isTwice_5 hP
      refine sp_st_twoOf ?_
      rw [f_two_v ⟨a1, a2⟩ hC, if_pos (by omega)]
      refine sp_letter (d := d + 1) hK' hC (Or.inl hk4) ⟨i0, by omega⟩ ?_
      have e : s_hs m (m 361 K) (i + 1).toNat = w_32 (w_32 (s_hs m (m 361 K) i.toNat * 31) + m 365 (m 361 K + i) % 256) := by
        rw [show (i + 1).toNat = i.toNat + 1 by omega]
        show w_32 (w_32 (s_hs m (m 361 K) i.toNat * 31) + m 365 (m 361 K + (i.toNat : Int)) % 256) = _
        rw [show (i.toNat : Int) = i by omega]
      rw [← e, w_32_id (by omega) (by omega)]
      exact ih (i + 1) (by omega) (by omega)
  apply xr_ps_isTwice hP
  exact loop (m 362 K).toNat 0 (by decide) (by omega)
/-- the parts of a node, in the class -/
theorem s_ch.cc (h : s_st g m n) : ∀ {l : List Int} {x y : Int}, s_l2 g.1 (n 428 15) y x → s_ch n (n 428 15) x l → s_cc m y (l.map g.1) := by
  intro l
  induction l with
  | nil =>
    intro x y h1 h2
    trivial
  | cons z l ih =>
    intro x y h1 h2
    obtain ⟨a1, a2, a3, a4⟩ := h2
    subst a1
    rcases h1 with q | q
    · omega
    · have hn := h.2.1 x a2 a3
      have lk := hn.2.2.2.2.2.2.2.2.2.1
      exact ⟨q.2.2, by have := hn.1; omega, hn.2.1, ih lk a4⟩
theorem s_st.cc (h : s_st g m n) (hb : 0 ≤ b ∧ b < n 428 15) (hk : n 432 b = 6 ∨ n 432 b = 7) : s_cc m (m 361 (g.1 b)) ((g.2.1 b).map g.1) ∧ m 362 (g.1 b) = ((g.2.1 b).map g.1).length := by
  have hn := h.2.1 b hb.1 hb.2
  obtain ⟨⟨l1, l2, l3⟩, l4⟩ := h.2.2.2.2 b hb.1 hb.2 hk
  obtain ⟨c1, c2⟩ := hn.2.2.2.2.2.2.2.2.1 hk
  exact ⟨s_ch.cc h c2.l2 l1, by rw [List.length_map, c1, l2]⟩
end TW
