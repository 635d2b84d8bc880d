/-! ===== the names that the class knows; entries of dicts: both sides ===== -/
/-- their bytes, from the first on -/
def s_W : List (List Int) := [[84, 121, 112, 101], [67, 97, 116, 97, 108, 111, 103], [80, 97, 103, 101, 115], [80, 97, 103, 101], [75, 105, 100, 115], [67, 111, 117, 110, 116], [80, 97, 114, 101, 110, 116], [77, 101, 100, 105, 97, 66, 111, 120], [82, 101, 115, 111, 117, 114, 99, 101, 115], [82, 111, 116, 97, 116, 101], [67, 111, 110, 116, 101, 110, 116, 115], [70, 111, 110, 116], [70, 105, 114, 115, 116, 67, 104, 97, 114], [76, 97, 115, 116, 67, 104, 97, 114], [87, 105, 100, 116, 104, 115], [84, 105, 116, 108, 101], [65, 117, 116, 104, 111, 114], [83, 117, 98, 106, 101, 99, 116], [75, 101, 121, 119, 111, 114, 100, 115], [76, 101, 110, 103, 116, 104], [70, 105, 108, 116, 101, 114], [68, 101, 99, 111, 100, 101, 80, 97, 114, 109, 115], [70, 108, 97, 116, 101, 68, 101, 99, 111, 100, 101], [65, 83, 67, 73, 73, 72, 101, 120, 68, 101, 99, 111, 100, 101], [80, 114, 101, 100, 105, 99, 116, 111, 114], [67, 111, 108, 117, 109, 110, 115], [67, 111, 108, 111, 114, 115], [66, 105, 116, 115, 80, 101, 114, 67, 111, 109, 112, 111, 110, 101, 110, 116], [88, 82, 101, 102], [87], [73, 110, 100, 101, 120], [83, 105, 122, 101], [80, 114, 101, 118], [69, 110, 99, 114, 121, 112, 116], [88, 82, 101, 102, 83, 116, 109], [82, 111, 111, 116], [73, 110, 102, 111], [79, 98, 106, 83, 116, 109], [78], [70, 105, 114, 115, 116]]
/-- where they begin -/
def s_Wb : List Int := [0, 5, 13, 19, 24, 29, 35, 42, 51, 61, 68, 77, 82, 92, 101, 108, 114, 121, 129, 138, 145, 152, 164, 176, 191, 201, 209, 216, 233, 238, 240, 246, 251, 256, 264, 272, 277, 282, 289, 291]
def s_wd (k : Int) : List Int := s_W.getD (k - 1).toNat []
def s_wb (k : Int) : Int := s_Wb.getD (k - 1).toNat 0
theorem s_W_ok : ∀ k : Fin 40, 0 ≤ s_wb (k.val + 1) ∧ s_wb (k.val + 1) + (s_wd (k.val + 1)).length ≤ 400 ∧ (s_wd (k.val + 1)).length < 100 ∧ ∀ c ∈ s_wd (k.val + 1), 0 ≤ c ∧ c < 128 := by decide +kernel
theorem s_wd_ok {k : Int} (h : 1 ≤ k ∧ k ≤ 40) : 0 ≤ s_wb k ∧ s_wb k + (s_wd k).length ≤ 400 ∧ (s_wd k).length < 100 ∧ ∀ c ∈ s_wd k, 0 ≤ c ∧ c < 128 := by
  have := s_W_ok ⟨(k - 1).toNat, by omega⟩
  have e : (((k - 1).toNat : Nat) : Int) + 1 = k := by omega
  simp only [e] at this
  exact this
/-- they stand in the class's store; nothing stands at 0 -/
def s_kw (m : w_M) : Prop := m 360 0 = 0 ∧ ∀ k : Int, 1 ≤ k → k ≤ 40 → m 360 k = 4 ∧ m 361 k = s_wb k ∧ m 362 k = (s_wd k).length ∧ ∀ i : Nat, i < (s_wd k).length → m 365 (s_wb k + i) = (s_wd k).getD i 0
/-- the reference's bytes from y on, s of them, are these -/
def s_is (n : w_M) (y s : Int) (l : List Int) : Prop := s = l.length ∧ ∀ i : Nat, i < l.length → n 440 (y + i) % 256 = l.getD i 0
/-- the part of that name -/
noncomputable def s_fd (n : w_M) (l : List Int) : List Int → Int
  | [] => -1
  | y :: r => by classical exact (if s_is n (n 438 y) (n 439 y) l then y else s_fd n l r)
/-- the class's node, or none -/
def s_up (f : Int → Int) (y : Int) : Int := if y < 0 then -1 else f y
theorem s_fd_y {n : w_M} {l r : List Int} {y : Int} (h : s_is n (n 438 y) (n 439 y) l) : s_fd n l (y :: r) = y := if_pos h
theorem s_fd_n {n : w_M} {l r : List Int} {y : Int} (h : ¬ s_is n (n 438 y) (n 439 y) l) : s_fd n l (y :: r) = s_fd n l r := if_neg h
theorem s_fd_r (n : w_M) (l : List Int) : ∀ r : List Int, s_fd n l r = -1 ∨ s_fd n l r ∈ r := by
  intro r
  induction r with
  | nil => exact Or.inl rfl
  | cons y r ih =>
    by_cases q : s_is n (n 438 y) (n 439 y) l
    · rw [s_fd_y q]; exact Or.inr (List.mem_cons_self ..)
    · rw [s_fd_n q]
      rcases ih with ih | ih
      · exact Or.inl ih
      · exact Or.inr (List.mem_cons_of_mem _ ih)
section EN
variable {d : Nat} {g : s_g} {m m' n n' : w_M} {a b c s k x y i N : Int} {l L : List Int} {Q : Int → w_M → Prop}
theorem s_kw.fr (h : s_kw m) (hc : s_cf m m') (hb : s_bd m n) : s_kw m' := by
  obtain ⟨h0, h1⟩ := h
  unfold s_bd at hb
  refine ⟨by rw [hc.2.2.1 360 0 (by decide) (by decide) (by decide) (by omega)]; exact h0, fun k q1 q2 => ?_⟩
  obtain ⟨a1, a2, a3, a4⟩ := h1 k q1 q2
  have ok := s_wd_ok ⟨q1, q2⟩
  have e := fun a z1 z2 => hc.2.2.1 a k z1 z2 (by omega) (by omega)
  refine ⟨by rw [e 360 (by decide) (by decide)]; exact a1, by rw [e 361 (by decide) (by decide)]; exact a2, by rw [e 362 (by decide) (by decide)]; exact a3, fun i hi => ?_⟩
  rw [hc.2.2.2 _ (by omega)]
  exact a4 i hi
theorem s_kw.tn (h : s_kw m) (hb : s_bd m n) (hk : 1 ≤ k ∧ k ≤ 40) : s_tn m k := by
  obtain ⟨a1, a2, a3, a4⟩ := h.2 k hk.1 hk.2
  have ok := s_wd_ok hk
  unfold s_bd at hb
  unfold s_tn
  omega
/-- bytes of the reference beside a text of the program -/
theorem r_isText_16 (hs : t_s s l) (ha : 0 ≤ a ∧ a + c ≤ 150000) (hc : c = l.length) : ∀ (k : Nat) (i f : Int), 0 ≤ i → i + k = c → (f = 0 ∨ f = 1) → ((f = 1 ∧ ∀ j : Nat, (j : Int) < c → i ≤ j → n 440 (a + j) % 256 = l.getD j 0) → Q 1 n) → (¬ (f = 1 ∧ ∀ j : Nat, (j : Int) < c → i ≤ j → n 440 (a + j) % 256 = l.getD j 0) → Q 0 n) → xp_m_isText_16 (d + 4) a c s f i n Q := by
  intro k
  induction k with
  | zero =>
    intro i f i0 i1 hf h1 h0
    apply xr_m_isText_16
    rw [if_neg (by omega)]
    refine ⟨hf, ?_⟩
    rcases hf with e | e
    · rw [e]
      exact h0 (fun z => by omega)
    · rw [e]
      exact h1 ⟨e, fun j q1 q2 => by omega⟩
  | succ k ih =>
    intro i f i0 i1 hf h1 h0
    have ok := hs.ok
    apply xr_m_isText_16
    rw [if_pos (by omega), w_32_id (x := i + 1) (by omega) (by omega), w_32_id (x := a + i) (by omega) (by omega)]
    rcases hf with e | e
    · rw [if_pos e]
      exact ih (i + 1) 0 (by omega) (by omega) (Or.inl rfl) (fun z => by omega) (fun _ => h0 (fun z => by omega))
    · rw [if_neg (by omega)]
      refine ⟨by omega, hs.isS, ?_⟩
      have ei : ((i.toNat : Nat) : Int) = i := by omega
      rw [← ei]
      refine sp_charAt hs (i := i.toNat) (by omega) ?_
      rw [ei]
      by_cases q : n 440 (a + i) % 256 = l.getD i.toNat 0
      · rw [if_pos q]
        refine ih (i + 1) 1 (by omega) (by omega) (Or.inr rfl) (fun z => h1 ⟨e, fun j q1 q2 => ?_⟩) (fun z => h0 (fun w => z ⟨rfl, fun j q1 q2 => w.2 j q1 (by omega)⟩))
        by_cases w : (j : Int) = i
        · have : j = i.toNat := by omega
          rw [w, this]
          exact q
        · exact z.2 j q1 (by omega)
      · rw [if_neg q]
        refine ih (i + 1) 0 (by omega) (by omega) (Or.inl rfl) (fun z => by omega) (fun _ => h0 (fun z => q ?_))
        have := z.2 i.toNat (by omega) (by omega)
        rw [ei] at this
        exact this
theorem r_isText (hs : t_s s l) (ha : 0 ≤ a ∧ a + c ≤ 150000) (h1 : s_is n a c l → Q 1 n) (h0 : ¬ s_is n a c l → Q 0 n) : xc_m_isText (d + 5) a c s n Q := by
  apply xr_m_isText
  refine ⟨hs.isS, ?_⟩
  refine sp_length (d := d + 2) hs ?_
  by_cases q : c = l.length
  · rw [if_pos q]
    refine r_isText_16 hs ha q c.toNat 0 1 (by decide) (by omega) (Or.inr rfl) (fun z => h1 ⟨q, fun i hi => z.2 i (by omega) (by omega)⟩) (fun z => h0 (fun w => z ⟨rfl, fun j q1 q2 => w.2 j (by omega)⟩))
  · rw [if_neg q]
    exact h0 (fun z => q z.1)
/-- a node of the reference that has a name's kind and is this name -/
def s_nk (n : w_M) (y : Int) (l : List Int) : Prop := 0 ≤ y ∧ n 432 y = 4 ∧ s_is n (n 436 y) (n 435 y) l
theorem r_isName (hs : t_s s l) (hy : y < 40000) (ht : 0 ≤ y → n 432 y = 4 → 0 ≤ n 436 y ∧ n 436 y + n 435 y ≤ 150000) (h1 : s_nk n y l → Q 1 n) (h0 : ¬ s_nk n y l → Q 0 n) : xc_m_isName (d + 6) y s n Q := by
  apply xr_m_isName
  by_cases q : y < 0
  · rw [if_pos q]
    exact h0 (fun z => by have := z.1; omega)
  · rw [if_neg q]
    refine ⟨by omega, ?_⟩
    by_cases q2 : n 432 y = 4
    · rw [if_pos q2]
      refine ⟨by omega, by omega, ?_⟩
      refine r_isText hs (ht (by omega) q2) (fun z => ?_) (fun z => ?_)
      · rw [if_neg (by decide)]
        exact h1 ⟨by omega, q2, z⟩
      · rw [if_pos rfl]
        exact h0 (fun w => z w.2.2)
    · rw [if_neg q2]
      exact h0 (fun w => q2 w.2.1)
theorem r_rawEntry_7 (hs : t_s s l) (hN : N ≤ 40000) : ∀ (L : List Int) (x : Int), s_ch n N x L → (∀ y ∈ L, 0 ≤ n 438 y ∧ n 438 y + n 439 y ≤ 150000) → Q (s_fd n l L) n → xp_m_rawEntry_7 (d + 5) s x n Q := by
  intro L
  induction L with
  | nil =>
    intro x h _ hQ
    have h : x = -1 := h
    apply xr_m_rawEntry_7
    rw [if_pos (by omega)]
    exact hQ
  | cons y L ih =>
    intro x h ht hQ
    obtain ⟨e, a1, a2, a3⟩ := h
    subst e
    have t := ht x (List.mem_cons_self ..)
    apply xr_m_rawEntry_7
    rw [if_neg (by omega)]
    refine ⟨by omega, by omega, ?_⟩
    refine r_isText hs t (fun z => ?_) (fun z => ?_)
    · rw [if_neg (by decide)]
      rw [s_fd_y z] at hQ
      exact hQ
    · rw [if_pos rfl]
      rw [s_fd_n z] at hQ
      exact ⟨by omega, ih _ a3 (fun y hy => ht y (List.mem_cons_of_mem _ hy)) hQ⟩
/-- where texts of nodes stand -/
theorem s_nd.tx (h : s_nd g m n b) (hb : s_bd m n) (h4 : n 432 b = 4 ∨ n 432 b = 5) : 0 ≤ n 436 b ∧ n 436 b + n 435 b ≤ 150000 := by
  obtain ⟨a1, a2, a3, a4, a5, a6, a7, a8, a9, a10, a11⟩ := h
  obtain ⟨_, b1, b2, b3, b4, b5, _⟩ := a8 h4
  unfold s_bd at hb
  omega
theorem s_nd.ky (h : s_nd g m n b) (hb : s_bd m n) (h0 : 0 ≤ m 364 (g.1 b)) : 0 ≤ n 438 b ∧ n 438 b + n 439 b ≤ 150000 := by
  obtain ⟨a1, a2, a3, a4, a5, a6, a7, a8, a9, a10, a11⟩ := h
  rcases a11 with w | ⟨_, _, _, _, b1, b2, b3, b4, b5, _⟩
  · omega
  · unfold s_bd at hb
    omega
/-- the parts of a dict, each with a name -/
theorem s_st.di (h : s_st g m n) (hb : 0 ≤ b ∧ b < n 428 15) (hk : n 432 b = 7) : s_ch n (n 428 15) (n 436 b) (g.2.1 b) ∧ n 435 b = (g.2.1 b).length ∧ ∀ y ∈ g.2.1 b, 0 ≤ y ∧ y < n 428 15 ∧ 0 ≤ m 364 (g.1 y) ∧ 0 ≤ n 438 y ∧ n 438 y + n 439 y ≤ 150000 ∧ g.2.2.2.2.1 y < g.2.2.2.2.1 b := by
  obtain ⟨a0, b1, b2, b3, b4⟩ := h
  obtain ⟨⟨c1, c2, c3, c4⟩, _, _⟩ := b4 b hb.1 hb.2 (Or.inr hk)
  refine ⟨c1, c2, fun y hy => ?_⟩
  have z := c1.mem y hy
  have z2 := (c4 hk).1 y hy
  have z3 := (b1 y z.1 z.2).ky a0 z2
  exact ⟨z.1, z.2, z2, z3.1, z3.2, (c3 y hy).2.1⟩
theorem r_rawEntry (h : s_st g m n) (hs : t_s s l) (hb : 0 ≤ b ∧ b < n 428 15) (hk : n 432 b = 7) (hQ : Q (s_fd n l (g.2.1 b)) n) : xc_m_rawEntry (d + 6) b s n Q := by
  have hbd := h.1
  unfold s_bd at hbd
  obtain ⟨c1, c2, c3⟩ := h.di hb hk
  apply xr_m_rawEntry
  exact ⟨by omega, r_rawEntry_7 hs (N := n 428 15) (by omega) _ _ c1 (fun y hy => by have := c3 y hy; omega) hQ⟩
theorem r_direct (h : s_st g m n) (hs : t_s s l) (hb : 0 ≤ b ∧ b < n 428 15) (hk : n 432 b = 7) (hQ : Q (s_fd n l (g.2.1 b)) n) : xc_m_direct (d + 7) b s n Q := by
  apply xr_m_direct
  exact r_rawEntry h hs hb hk hQ
/-- the same name: of the class a node that is known -/
theorem s_ky.eq (h : s_ky m n x y s) (hx : 0 ≤ x) (hw : s_kw m) (hk : 1 ≤ k ∧ k ≤ 40) : s_tn m x → (s_eq m x k ↔ s_is n y s (s_wd k)) := by
  intro _
  obtain ⟨a1, a2, a3, a4⟩ := hw.2 k hk.1 hk.2
  have ok := s_wd_ok hk
  rcases h with w | ⟨c1, c2, c3, c4, t1, t2, t3, t4, t5, t6⟩
  · omega
  · unfold s_eq s_is
    rw [c4, a3, a2]
    constructor
    · intro ⟨e1, e2⟩
      refine ⟨e1, fun i hi => ?_⟩
      obtain ⟨u1, u2, u3⟩ := t6 i (by omega) (by omega)
      have := e2 i (by omega) (by omega)
      rw [u1, a4 i hi] at this
      have hc : (s_wd k).getD i 0 ∈ s_wd k := by
        rw [List.getD_eq_getElem?_getD, List.getElem?_eq_getElem hi]
        exact List.getElem_mem hi
      have := ok.2.2.2 _ hc
      omega
    · intro ⟨e1, e2⟩
      refine ⟨e1, fun i i0 i1 => ?_⟩
      have ei : ((i.toNat : Nat) : Int) = i := by omega
      obtain ⟨u1, u2, u3⟩ := t6 i (by omega) (by omega)
      have z := e2 i.toNat (by omega)
      have z2 := a4 i.toNat (by omega)
      rw [ei] at z z2
      have hc : (s_wd k).getD i.toNat 0 ∈ s_wd k := by
        rw [List.getD_eq_getElem?_getD, List.getElem?_eq_getElem (by omega)]
        exact List.getElem_mem _
      have := ok.2.2.2 _ hc
      rw [u1, z2]
      omega
theorem s_nd.keq (h : s_nd g m n b) (hb : s_bd m n) (h0 : 0 ≤ m 364 (g.1 b)) (hw : s_kw m) (hk : 1 ≤ k ∧ k ≤ 40) : s_tn m (m 364 (g.1 b)) ∧ (s_eq m (m 364 (g.1 b)) k ↔ s_is n (n 438 b) (n 439 b) (s_wd k)) := by
  obtain ⟨a1, a2, a3, a4, a5, a6, a7, a8, a9, a10, a11⟩ := h
  have t : s_tn m (m 364 (g.1 b)) := by
    unfold s_bd at hb
    rcases a11 with w | ⟨c1, c2, c3, c4, t1, t2, t3, _⟩
    · omega
    · unfold s_tn
      omega
  exact ⟨t, a11.eq h0 hw hk t⟩
/-- the name that a node is -/
theorem s_nd.neq (h : s_nd g m n b) (hb : s_bd m n) (h4 : n 432 b = 4 ∨ n 432 b = 5) (hw : s_kw m) (hk : 1 ≤ k ∧ k ≤ 40) : s_tn m (g.1 b) ∧ (s_eq m (g.1 b) k ↔ s_is n (n 436 b) (n 435 b) (s_wd k)) := by
  obtain ⟨a1, a2, a3, a4, a5, a6, a7, a8, a9, a10, a11⟩ := h
  obtain ⟨e1, t1⟩ := a8 h4
  have t : s_tn m (g.1 b) := by
    unfold s_bd at hb
    obtain ⟨u1, u2, u3, _⟩ := t1
    unfold s_tn
    omega
  refine ⟨t, ?_⟩
  obtain ⟨b1, b2, b3, b4⟩ := hw.2 k hk.1 hk.2
  have ok := s_wd_ok hk
  obtain ⟨t1, t2, t3, t4, t5, t6⟩ := t1
  unfold s_eq s_is
  rw [e1, b3, b2]
  constructor
  · intro ⟨e1, e2⟩
    refine ⟨e1, fun i hi => ?_⟩
    obtain ⟨u1, u2, u3⟩ := t6 i (by omega) (by omega)
    have := e2 i (by omega) (by omega)
    rw [u1, b4 i hi] at this
    have hc : (s_wd k).getD i 0 ∈ s_wd k := by
      rw [List.getD_eq_getElem?_getD, List.getElem?_eq_getElem hi]
      exact List.getElem_mem hi
    have := ok.2.2.2 _ hc
    omega
  · intro ⟨e1, e2⟩
    refine ⟨e1, fun i i0 i1 => ?_⟩
    have ei : ((i.toNat : Nat) : Int) = i := by omega
    obtain ⟨u1, u2, u3⟩ := t6 i (by omega) (by omega)
    have z := e2 i.toNat (by omega)
    have z2 := b4 i.toNat (by omega)
    rw [ei] at z z2
    have hc : (s_wd k).getD i.toNat 0 ∈ s_wd k := by
      rw [List.getD_eq_getElem?_getD, List.getElem?_eq_getElem (by omega)]
      exact List.getElem_mem _
    have := ok.2.2.2 _ hc
    rw [u1, z2]
    omega
end EN
