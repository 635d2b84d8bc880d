/-! ===== an open document: what a page or node owns, has from above, shows: both sides ===== -/
theorem l_pig : ∀ (N : Nat) (L : List Int), (∀ y ∈ L, 0 ≤ y ∧ y < N) → L.Pairwise (fun a b => a ≠ b) → L.length ≤ N := by
  intro N
  induction N with
  | zero =>
    intro L h _
    cases L with
    | nil => exact Nat.le_refl _
    | cons y L => have := h y (List.mem_cons_self ..); omega
  | succ N ih =>
    intro L h hp
    by_cases q : ((N : Nat) : Int) ∈ L
    · obtain ⟨A, B, e⟩ := List.append_of_mem q
      rw [e] at h hp ⊢
      rw [List.pairwise_append] at hp
      obtain ⟨p1, p2, p3⟩ := hp
      rw [List.pairwise_cons] at p2
      have ne : ∀ y ∈ A ++ B, y ≠ (N : Int) := by
        intro y hy
        rcases List.mem_append.mp hy with z | z
        · exact p3 y z _ (List.mem_cons_self ..)
        · exact fun w => p2.1 y z w.symm
      have := ih (A ++ B) (fun y hy => by
        have h1 := h y (by
          rcases List.mem_append.mp hy with z | z
          · exact List.mem_append.mpr (Or.inl z)
          · exact List.mem_append.mpr (Or.inr (List.mem_cons_of_mem _ z)))
        have h2 := ne y hy
        omega) (by
        rw [List.pairwise_append]
        exact ⟨p1, p2.2, fun a ha b hb => p3 a ha b (List.mem_cons_of_mem _ hb)⟩)
      rw [List.length_append] at this ⊢
      rw [List.length_cons]
      omega
    · have := ih L (fun y hy => by
        have h1 := h y hy
        have h2 : y ≠ (N : Int) := fun w => q (by rw [← w]; exact hy)
        omega) hp
      omega
section OC
variable {d f : Nat} {g g' : s_g} {m m' m1 m2 n n' n1 n2 : w_M} {Q R : Int → w_M → Prop} {p k v x y z r b i l t s a N : Int} {w : List Int}
theorem s_ch.one {n : w_M} {N : Int} : ∀ {L L' : List Int} {x : Int}, s_ch n N x L → s_ch n N x L' → L = L' := by
  intro L
  induction L with
  | nil =>
    intro L' x h h'
    cases L' with
    | nil => rfl
    | cons y L' =>
      have a : x = -1 := h
      have := h'.1
      have := h'.2.1
      omega
  | cons y L ih =>
    intro L' x h h'
    cases L' with
    | nil =>
      have a : x = -1 := h'
      have := h.1
      have := h.2.1
      omega
    | cons y' L' =>
      obtain ⟨a1, a2, a3, a4⟩ := h
      obtain ⟨b1, b2, b3, b4⟩ := h'
      have e : y' = y := by omega
      subst e
      rw [ih a4 b4]
theorem s_ch.suf {n : w_M} {N : Int} {y : Int} {B : List Int} : ∀ {A : List Int} {x : Int}, s_ch n N x (A ++ y :: B) → s_ch n N y (y :: B) := by
  intro A
  induction A with
  | nil =>
    intro x h
    have e : x = y := h.1
    rw [← e]
    rw [← e] at h
    exact h
  | cons a A ih =>
    intro x h
    exact ih h.2.2.2
theorem s_ch.nd {n : w_M} {N : Int} : ∀ {L : List Int} {x : Int}, s_ch n N x L → L.Pairwise (fun a b => a ≠ b) := by
  intro L
  induction L with
  | nil => intro x _; exact List.Pairwise.nil
  | cons y L ih =>
    intro x h
    rw [List.pairwise_cons]
    refine ⟨fun z hz e => ?_, ih h.2.2.2⟩
    subst e
    obtain ⟨A, B, e⟩ := List.append_of_mem hz
    have h1 : s_ch n N y (y :: L) := by
      have := h.1
      subst this
      exact h
    have h2 : s_ch n N y (y :: B) := by
      have := h.2.2.2
      rw [e] at this
      exact this.suf
    have := h1.one h2
    have e2 : L.length = B.length := by rw [(List.cons.inj this).2]
    rw [e, List.length_append, List.length_cons] at e2
    omega
theorem s_ch.len {n : w_M} {N : Int} {L : List Int} {x : Int} (h : s_ch n N x L) (hN : 0 ≤ N) : (L.length : Int) ≤ N := by
  have := l_pig N.toNat L (fun y hy => by have := h.mem y hy; omega) h.nd
  omega
/-- what an entry is -/
noncomputable def o_en (g : s_g) (n : w_M) (b k : Int) : Int := o_re n (s_fd n (s_wd k) (g.2.1 b))
def t_ow (g : s_g) (n : w_M) (b : Int) : Prop := (t_no n (o_en g n b 8) ∨ t_bx g n (o_en g n b 8)) ∧ (t_no n (o_en g n b 9) ∨ o_isd n (s_fd n (s_wd 9) (g.2.1 b))) ∧ (t_no n (o_en g n b 10) ∨ (n 432 (o_en g n b 10) = 2 ∧ Int.tmod (n 433 (o_en g n b 10)) 90 = 0))
theorem o_I.enn (h : o_I g m n) (hb : 0 ≤ b ∧ b < n 428 15) (h7 : n 432 b = 7) : s_no n (o_en g n b k) := o_re_no h (h.fdn hb h7)
theorem o_kdn (h : o_I g m n) (hz : s_no n z) : f_st_kindOf m (o_up g z) = 0 ↔ t_no n z := by
  rw [o_kd h hz]
  unfold t_no
  by_cases q : z < 0
  · rw [if_pos q]; exact ⟨fun _ => Or.inl q, fun _ => rfl⟩
  · rw [if_neg q]; exact ⟨fun w => Or.inr w, fun w => w.resolve_left q⟩
theorem r_own94 (h : o_I g m n) (e : e80 n n1) (hz : s_no n z) (hs : s = 0 ∨ s = 1) (H1 : s = 1 ∧ (t_no n z ∨ (n 432 z = 2 ∧ Int.tmod (n 433 z) 90 = 0)) → Q 1 n1) (H0 : ¬ (s = 1 ∧ (t_no n z ∨ (n 432 z = 2 ∧ Int.tmod (n 433 z) 90 = 0))) → Q 0 n1) : xp_m_ownsRight_94 d z s n1 Q := by
  have bd := h.bd
  apply xr_m_ownsRight_94
  rw [e 432 z (by omega), e 433 z (by omega)]
  rcases hs with hs | hs
  · rw [if_pos hs]
    exact H0 (fun w => by omega)
  · rw [if_neg (by omega)]
    unfold t_no at H1 H0
    rcases hz with hz | hz
    · rw [if_pos (by omega)]
      exact H1 ⟨hs, Or.inl (Or.inl (by omega))⟩
    · rw [if_neg (by omega)]
      refine ⟨by omega, ?_⟩
      refine z_ite (fun q => H1 ⟨hs, Or.inl (Or.inr q)⟩) (fun q => ⟨by omega, ?_⟩)
      refine z_ite (fun q2 => ⟨by omega, ?_⟩) (fun q2 => H0 (fun w => by rcases w.2 with w | w <;> omega))
      exact z_ite (fun q3 => H1 ⟨hs, Or.inr ⟨q2, q3⟩⟩) (fun q3 => H0 (fun w => by rcases w.2 with w | w <;> omega))
theorem r_ownsRight (h : o_I g m n) (e : e80 n n1) (hb : 0 ≤ b ∧ b < n 428 15) (h7 : n 432 b = 7) (H1 : t_ow g n b → ∀ n2, e80 n n2 → Q 1 n2) (H0 : ¬ t_ow g n b → ∀ n2, e80 n n2 → Q 0 n2) : xc_m_ownsRight (d + 8) b n1 Q := by
  have bd := h.bd
  have n8 := h.enn (k := 8) hb h7
  have n9 := h.enn (k := 9) hb h7
  have n10 := h.enn (k := 10) hb h7
  apply xr_m_ownsRight
  refine r_tent (d := d) h e t_mMediaBox hb h7 (fun n2 e2 _ => ?_)
  refine r_tent (d := d) h e2 t_mResources hb h7 (fun n3 e3 _ => ?_)
  refine r_tent (d := d) h e3 t_mRotate hb h7 (fun n4 e4 _ => ?_)
  have k54 : ∀ (s : Int) (n5 : w_M), e80 n n5 → (s = 0 ∨ s = 1) → (s = 1 ↔ (t_no n (o_en g n b 8) ∨ t_bx g n (o_en g n b 8))) → xp_m_ownsRight_54 (d + 7) b (o_en g n b 9) (o_en g n b 10) s n5 Q := by
    intro s n5 e5 hs hi
    have k94 : ∀ (t : Int) (n6 : w_M), e80 n n6 → (t = 0 ∨ t = 1) → (t = 1 ↔ (s = 1 ∧ (t_no n (o_en g n b 9) ∨ o_isd n (s_fd n (s_wd 9) (g.2.1 b))))) → xp_m_ownsRight_94 (d + 7) (o_en g n b 10) t n6 Q := by
      intro t n6 e6 ht hi2
      refine r_own94 (d := d + 7) h e6 n10 ht (fun w => H1 ⟨hi.mp (hi2.mp w.1).1, (hi2.mp w.1).2, w.2⟩ n6 e6) (fun w => H0 (fun u => w ⟨hi2.mpr ⟨hi.mpr u.1, u.2.1⟩, u.2.2⟩) n6 e6)
    apply xr_m_ownsRight_54
    rcases hs with hs | hs
    · rw [if_pos hs]
      exact k94 0 n5 e5 (Or.inl rfl) ⟨fun w => by omega, fun w => by omega⟩
    · rw [if_neg (by omega), e5 432 _ (by omega)]
      rcases n9 with n9 | n9
      · rw [if_pos (by omega)]
        exact k94 1 n5 e5 (Or.inr rfl) ⟨fun _ => ⟨hs, Or.inl (Or.inl (by omega))⟩, fun _ => rfl⟩
      · rw [if_neg (by omega)]
        refine ⟨by omega, ?_⟩
        refine z_ite (fun q => k94 1 n5 e5 (Or.inr rfl) ⟨fun _ => ⟨hs, Or.inl (Or.inr q)⟩, fun _ => rfl⟩) (fun q => ?_)
        have nt : ¬ t_no n (o_en g n b 9) := fun w => by rcases w with w | w <;> omega
        refine r_raw2 (d := d + 1) h e5 t_mResources hb h7 ?_
        refine r_dictAt (d := d + 3) h e5 (h.fdn hb h7) (fun w n6 e6 => ?_) (fun w n6 e6 => ?_)
        · have w0 := w.1
          rw [if_neg (by omega)]
          exact k94 1 n6 e6 (Or.inr rfl) ⟨fun _ => ⟨hs, Or.inr w⟩, fun _ => rfl⟩
        · rw [if_pos (by decide)]
          exact k94 0 n6 e6 (Or.inl rfl) ⟨fun u => by omega, fun u => by rcases u.2 with u | u; exact absurd u nt; exact absurd u w⟩
  show (if o_en g n b 8 < 0 then xp_m_ownsRight_54 (d + 7) b (o_en g n b 9) (o_en g n b 10) 1 n4 Q else _)
  rw [e4 432 _ (by omega)]
  rcases n8 with n8 | n8
  · rw [if_pos (by omega)]
    exact k54 1 n4 e4 (Or.inr rfl) ⟨fun _ => Or.inl (Or.inl (by omega)), fun _ => rfl⟩
  · rw [if_neg (by omega)]
    refine ⟨by show 0 ≤ o_en g n b 8 ∧ o_en g n b 8 < 40000; omega, ?_⟩
    refine z_ite (fun q => k54 1 n4 e4 (Or.inr rfl) ⟨fun _ => Or.inl (Or.inr q), fun _ => rfl⟩) (fun q => ?_)
    have nt : ¬ t_no n (o_en g n b 8) := fun w => by
      rcases w with w | w
      · omega
      · exact q w
    refine r_isBox (d := d + 3) h e4 n8 (fun w n5 e5 => ?_) (fun w n5 e5 => ?_)
    · rw [if_neg (by decide)]
      exact k54 1 n5 e5 (Or.inr rfl) ⟨fun _ => Or.inr w, fun _ => rfl⟩
    · rw [if_pos rfl]
      exact k54 0 n5 e5 (Or.inl rfl) ⟨fun u => by omega, fun u => by rcases u with u | u; exact absurd u nt; exact absurd u w⟩
/-- the class: what it looks at -/
theorem c_looksRight (h : o_I g m n) (hx : 0 ≤ x ∧ x < 200) (hA : m 401 x = a) (hb : 0 ≤ b ∧ b < n 428 15) (h7 : n 432 b = 7) (H1 : (p ≠ 0 ∨ s_nk n (o_en g n b 1) (s_wd 3)) ∧ (a = 0 ∨ o_ln n (s_fd n (s_wd 7) (g.2.1 b)) = a) ∧ t_ow g n b → Q 1 m) (H0 : ¬ ((p ≠ 0 ∨ s_nk n (o_en g n b 1) (s_wd 3)) ∧ (a = 0 ∨ o_ln n (s_fd n (s_wd 7) (g.2.1 b)) = a) ∧ t_ow g n b) → Q 0 m) : xc_tr_looksRight (d + 6) x (g.1 b) p m Q := by
  have bd := h.bd
  have n8 := h.enn (k := 8) hb h7
  have n9 := h.enn (k := 9) hb h7
  have n10 := h.enn (k := 10) hb h7
  -- Rotate
  have k143 : (p ≠ 0 ∨ s_nk n (o_en g n b 1) (s_wd 3)) → (a = 0 ∨ o_ln n (s_fd n (s_wd 7) (g.2.1 b)) = a) → (t_no n (o_en g n b 8) ∨ t_bx g n (o_en g n b 8)) → (t_no n (o_en g n b 9) ∨ o_isd n (s_fd n (s_wd 9) (g.2.1 b))) → xp_tr_looksRight_143 (d + 5) (g.1 b) m Q := by
    intro w1 w2 w3 w4
    apply xr_tr_looksRight_143
    refine c_tent (d := d + 1) h (by decide) hb h7 ?_
    rw [show o_re n (s_fd n (s_wd 10) (g.2.1 b)) = o_en g n b 10 from rfl]
    refine sp_st_kindOf (d := d + 4) ?_
    by_cases q : t_no n (o_en g n b 10)
    · rw [if_pos ((o_kdn h n10).mpr q)]
      exact H1 ⟨w1, w2, w3, w4, Or.inl q⟩
    · rw [if_neg (fun w => q ((o_kdn h n10).mp w))]
      refine sp_st_kindOf (d := d + 4) ?_
      rw [o_kd h n10]
      have z0 : ¬ o_en g n b 10 < 0 := fun w => q (Or.inl w)
      rw [if_neg z0]
      refine z_ite (fun q2 => ?_) (fun q2 => H0 (fun w => by rcases w.2.2.2.2 with u | u; exact q u; exact q2 u.1))
      refine sp_st_oneOf (d := d + 4) ?_
      have e : f_st_oneOf m (o_up g (o_en g n b 10)) = n 433 (o_en g n b 10) := by
        have := h.1.one n10 (Or.inr (Or.inl (by show (if o_en g n b 10 < 0 then -1 else n 432 (o_en g n b 10)) = 2; rw [if_neg z0]; exact q2)))
        rw [s_up_y (by omega)] at this
        unfold o_up
        rw [if_neg z0]
        exact this
      rw [e]
      exact z_ite (fun q3 => H1 ⟨w1, w2, w3, w4, Or.inr ⟨q2, q3⟩⟩) (fun q3 => H0 (fun w => by rcases w.2.2.2.2 with u | u; exact q u; exact q3 u.2))
  -- Resources
  have k98 : (p ≠ 0 ∨ s_nk n (o_en g n b 1) (s_wd 3)) → (a = 0 ∨ o_ln n (s_fd n (s_wd 7) (g.2.1 b)) = a) → (t_no n (o_en g n b 8) ∨ t_bx g n (o_en g n b 8)) → xp_tr_looksRight_98 (d + 5) (g.1 b) m Q := by
    intro w1 w2 w3
    apply xr_tr_looksRight_98
    refine sp_st_entry (d := d + 2) h.1 h.2.1 (by decide) hb h7 ?_
    refine c_value (d := d + 2) h (h.fdn hb h7) ?_
    rw [show o_re n (s_fd n (s_wd 9) (g.2.1 b)) = o_en g n b 9 from rfl]
    refine sp_st_kindOf (d := d + 4) ?_
    by_cases q : t_no n (o_en g n b 9)
    · rw [if_pos ((o_kdn h n9).mpr q)]
      exact k143 w1 w2 w3 (Or.inl q)
    · rw [if_neg (fun w => q ((o_kdn h n9).mp w))]
      refine c_dict (d := d + 1) h (h.fdn hb h7) (fun w => ?_) (fun w => ?_)
      · have g41 := (h.1.2.1 _ w.1 (by have := o_re_no h (h.fdn (w := s_wd 9) hb h7); unfold s_no at this; have := w.1; omega)).1
        rw [if_neg (by omega)]
        exact k143 w1 w2 w3 (Or.inr w)
      · rw [if_pos (by decide)]
        exact H0 (fun u => by rcases u.2.2.2.1 with u | u; exact q u; exact w u)
  -- MediaBox
  have kbox : (p ≠ 0 ∨ s_nk n (o_en g n b 1) (s_wd 3)) → (a = 0 ∨ o_ln n (s_fd n (s_wd 7) (g.2.1 b)) = a) → xc_ta_entry (d + 5) (g.1 b) 8 m (fun r1 m1 => xc_st_kindOf (d + 5) r1 m1 (fun r2 m2 => if r2 = 0 then (xp_tr_looksRight_98 (d + 5) (g.1 b) m2 Q) else (xc_tr_isBox (d + 5) r1 m2 (fun r3 m3 => if r3 = 0 then (Q 0 m3) else (xp_tr_looksRight_98 (d + 5) (g.1 b) m3 Q))))) := by
    intro w1 w2
    refine c_tent (d := d + 1) h (by decide) hb h7 ?_
    rw [show o_re n (s_fd n (s_wd 8) (g.2.1 b)) = o_en g n b 8 from rfl]
    refine sp_st_kindOf (d := d + 4) ?_
    by_cases q : t_no n (o_en g n b 8)
    · rw [if_pos ((o_kdn h n8).mpr q)]
      exact k98 w1 w2 (Or.inl q)
    · rw [if_neg (fun w => q ((o_kdn h n8).mp w))]
      have z0 : ¬ o_en g n b 8 < 0 := fun w => q (Or.inl w)
      have zr : 0 ≤ o_en g n b 8 ∧ o_en g n b 8 < n 428 15 := by unfold s_no at n8; omega
      rw [show o_up g (o_en g n b 8) = g.1 (o_en g n b 8) from if_neg z0]
      refine c_isBox (d := d + 1) h zr (fun w => ?_) (fun w => ?_)
      · rw [if_neg (by decide)]
        exact k98 w1 w2 (Or.inr w)
      · rw [if_pos rfl]
        exact H0 (fun u => by rcases u.2.2.1 with u | u; exact q u; exact w u)
  have k26 : (p ≠ 0 ∨ s_nk n (o_en g n b 1) (s_wd 3)) → xp_tr_looksRight_26 (d + 5) x (g.1 b) m Q := by
    intro w1
    apply xr_tr_looksRight_26
    refine ⟨hx, ?_⟩
    rw [hA]
    by_cases q : a = 0
    · rw [if_pos q]
      exact kbox w1 (Or.inl q)
    · rw [if_neg q]
      refine sp_st_entry (d := d + 2) h.1 h.2.1 (by decide) hb h7 ?_
      refine c_target (d := d + 4) h (h.fdn hb h7) ?_
      by_cases q2 : o_ln n (s_fd n (s_wd 7) (g.2.1 b)) = a
      · rw [if_pos q2]
        exact kbox w1 (Or.inr q2)
      · rw [if_neg q2]
        exact H0 (fun u => by rcases u.2.1 with u | u; exact q u; exact q2 u)
  apply xr_tr_looksRight
  by_cases q : p = 0
  · rw [if_pos q]
    refine c_tent (d := d + 1) h (by decide) hb h7 ?_
    refine c_isName2 (d := d + 2) h (by decide) (o_re_no h (h.fdn hb h7)) (fun w => ?_) (fun w => ?_)
    · rw [if_neg (by decide)]
      exact k26 (Or.inr w)
    · rw [if_pos rfl]
      exact H0 (fun u => by rcases u.1 with u | u; exact u q; exact w u)
  · rw [if_neg q]
    exact k26 (Or.inl q)
/-- what comes from above: the entry as it stands there -/
noncomputable def t_at (g : s_g) (n : w_M) (k : Int) : Nat → Int → Int
  | 0, _ => -1
  | f + 1, x => by
    classical
    exact if x = 0 then -1 else if t_no n (o_en g n (n 455 x) k) then t_at g n k f (n 469 x) else s_fd n (s_wd k) (g.2.1 (n 455 x))
def t_dk (n : w_M) (x : Int) : Prop := o_u n x ∧ n 432 (n 455 x) = 7
/-- the way up ends -/
def t_ch (n : w_M) : Nat → Int → Prop
  | 0, x => x = 0
  | f + 1, x => x = 0 ∨ (t_dk n x ∧ t_ch n f (n 469 x))
theorem t_at_0 : t_at g n k f 0 = -1 := by
  cases f with
  | zero => rfl
  | succ f => exact if_pos rfl
theorem t_at_y (hx : x ≠ 0) (h : t_no n (o_en g n (n 455 x) k)) : t_at g n k (f + 1) x = t_at g n k f (n 469 x) := by
  have : t_at g n k (f + 1) x = (by
    classical
    exact if x = 0 then -1 else if t_no n (o_en g n (n 455 x) k) then t_at g n k f (n 469 x) else s_fd n (s_wd k) (g.2.1 (n 455 x))) := rfl
  rw [this, if_neg hx, if_pos h]
theorem t_at_n (hx : x ≠ 0) (h : ¬ t_no n (o_en g n (n 455 x) k)) : t_at g n k (f + 1) x = s_fd n (s_wd k) (g.2.1 (n 455 x)) := by
  have : t_at g n k (f + 1) x = (by
    classical
    exact if x = 0 then -1 else if t_no n (o_en g n (n 455 x) k) then t_at g n k f (n 469 x) else s_fd n (s_wd k) (g.2.1 (n 455 x))) := rfl
  rw [this, if_neg hx, if_neg h]
theorem c_attr (h : o_I g m n) (hk : 1 ≤ k ∧ k ≤ 40) (hA : ∀ x, 0 ≤ x → x < 200 → m 401 x = n 469 x) : ∀ (f : Nat) (x i : Int), i + f = 21 → 0 ≤ i → t_ch n f x → Q (s_up g.1 (t_at g n k f x)) m → xp_tr_attribute_5 (d + 3) k x i m Q := by
  intro f
  induction f with
  | zero =>
    intro x i hi i0 hc hQ
    apply xr_tr_attribute_5
    rw [if_pos (by omega)]
    exact hQ
  | succ f ih =>
    intro x i hi i0 hc hQ
    apply xr_tr_attribute_5
    rw [if_neg (by omega), w_32_id (x := i + 1) (by omega) (by omega)]
    rcases hc with hc | ⟨hd, hc⟩
    · rw [hc, t_at_0] at hQ
      rw [if_neg (by omega)]
      exact hQ
    · obtain ⟨k1, k2, k3, k4, k5, k6, k7, k8⟩ := h.num hd.1
      have x1 := hd.1.1
      have r0 : 0 ≤ n 455 x ∧ n 455 x < n 428 15 := ⟨k6.1, k6.2.1⟩
      have no := h.fdn (w := s_wd k) r0 hd.2
      rw [if_pos (by omega), if_pos k1]
      refine c_root_y (d := d + 2) h hd.1 ?_
      refine sp_st_entry (d := d) h.1 h.2.1 hk r0 hd.2 ?_
      refine c_value (d := d) h no ?_
      refine sp_st_kindOf (d := d + 2) ?_
      by_cases q : t_no n (o_en g n (n 455 x) k)
      · rw [if_pos ((o_kdn h (o_re_no h no)).mpr q), hA x (by omega) k1]
        refine ⟨by omega, ih _ _ (by omega) (by omega) hc ?_⟩
        rw [t_at_y (by omega) q] at hQ
        exact hQ
      · rw [if_neg (fun w => q ((o_kdn h (o_re_no h no)).mp w))]
        rw [t_at_n (by omega) q] at hQ
        exact hQ
theorem c_attribute (h : o_I g m n) (hk : 1 ≤ k ∧ k ≤ 40) (hA : ∀ x, 0 ≤ x → x < 200 → m 401 x = n 469 x) (hc : t_ch n 21 x) (hQ : Q (s_up g.1 (t_at g n k 21 x)) m) : xc_tr_attribute (d + 4) x k m Q := by
  apply xr_tr_attribute
  exact c_attr (d := d) h hk hA 21 x 0 (by decide) (by decide) hc hQ
theorem t_at_no (h : o_I g m n) : ∀ (f : Nat) (x : Int), t_ch n f x → s_no n (t_at g n k f x) ∧ (0 ≤ t_at g n k f x → ¬ t_no n (o_re n (t_at g n k f x))) := by
  intro f
  induction f with
  | zero => intro x _; exact ⟨Or.inl rfl, fun w => absurd w (by show ¬ (0 : Int) ≤ -1; decide)⟩
  | succ f ih =>
    intro x hc
    rcases hc with hc | ⟨hd, hc⟩
    · rw [hc, t_at_0]; exact ⟨Or.inl rfl, fun w => absurd w (by decide)⟩
    · obtain ⟨k1, k2, k3, k4, k5, k6, k7, k8⟩ := h.num hd.1
      have x1 := hd.1.1
      by_cases q : t_no n (o_en g n (n 455 x) k)
      · rw [t_at_y (by omega) q]; exact ih _ hc
      · rw [t_at_n (by omega) q]
        exact ⟨h.fdn ⟨k6.1, k6.2.1⟩ hd.2, fun _ => q⟩
theorem r_holder (h : o_I g m n) (hs : t_s s (s_wd k)) : ∀ (f : Nat) (x : Int) (n1 : w_M), e80 n n1 → t_ch n f x → (∀ n2 y, e80 n n2 → ((y = 0 ∧ t_at g n k f x = -1) ∨ (t_dk n y ∧ t_at g n k f x = s_fd n (s_wd k) (g.2.1 (n 455 y)))) → Q y n2) → xp_m_holder_2 (d + 8) s x n1 Q := by
  have bd := h.bd
  intro f
  induction f with
  | zero =>
    intro x n1 e hc hQ
    have hx : x = 0 := hc
    apply xr_m_holder_2
    rw [if_pos hx]
    exact hQ n1 x e (Or.inl ⟨hx, rfl⟩)
  | succ f ih =>
    intro x n1 e hc hQ
    apply xr_m_holder_2
    rcases hc with hc | ⟨hd, hc⟩
    · rw [if_pos hc]
      refine hQ n1 x e (Or.inl ⟨hc, ?_⟩)
      rw [hc]; exact t_at_0
    · obtain ⟨k1, k2, k3, k4, k5, k6, k7, k8⟩ := h.num hd.1
      have x1 := hd.1.1
      have r0 : 0 ≤ n 455 x ∧ n 455 x < n 428 15 := ⟨k6.1, k6.2.1⟩
      rw [if_neg (by omega), e.big (by decide)]
      refine ⟨by omega, ?_⟩
      refine r_tent (d := d + 1) h e hs r0 hd.2 (fun n2 e2 _ => ?_)
      refine r_isNothing (d := d + 7) h e2 (o_re_no h (h.fdn r0 hd.2)) (fun q => ?_) (fun q => ?_)
      · rw [if_neg (by decide), e2.big (by decide)]
        refine ⟨by omega, ih _ n2 e2 hc (fun n3 y e3 hy => hQ n3 y e3 ?_)⟩
        rw [t_at_y (by omega) q]
        exact hy
      · rw [if_pos rfl]
        exact hQ n2 x e2 (Or.inr ⟨hd, t_at_n (by omega) q⟩)
theorem r_inherited (h : o_I g m n) (e : e80 n n1) (hs : t_s s (s_wd k)) (hc : t_ch n f x) (hQ : ∀ n2, e80 n n2 → Q (o_re n (t_at g n k f x)) n2) : xc_m_inherited (d + 10) x s n1 Q := by
  apply xr_m_inherited
  apply xr_m_holder
  refine r_holder (d := d) h hs f x n1 e hc (fun n2 y e2 hy => ?_)
  rcases hy with ⟨hy, ha⟩ | ⟨hd, ha⟩
  · rw [ha] at hQ
    rw [if_pos hy]
    have : o_re n (-1) = -1 := by
      unfold o_re
      rw [o_rs_n (by decide)]
    rw [this] at hQ
    exact hQ n2 e2
  · obtain ⟨k1, k2, k3, k4, k5, k6, k7, k8⟩ := h.num hd.1
    have x1 := hd.1.1
    rw [if_neg (by omega), e2.big (by decide)]
    refine ⟨by omega, ?_⟩
    rw [ha] at hQ
    exact r_tent (d := d + 2) h e2 hs ⟨k6.1, k6.2.1⟩ hd.2 (fun n3 e3 _ => hQ n3 e3)
/-- the stream that a node leads to; 0 -/
def t_st (n : w_M) (L : Int) : Int := if n 457 L = 0 then 0 else L
noncomputable def t_sn (n : w_M) (y : Int) : Int := t_st n (o_ln n y)
noncomputable def t_sm (n : w_M) : List Int → Int → Int
  | [], a => a
  | y :: L, a => if t_sn n y = 0 then -1 else t_sm n L (a + n 459 (t_sn n y) + (if L = [] then 0 else 1))
noncomputable def t_ct (g : s_g) (n : w_M) (b : Int) : Int := by
  classical
  exact if t_no n (o_en g n b 11) then 0 else if n 432 (o_en g n b 11) = 6 then t_sm n (g.2.1 (o_en g n b 11)) 0 else if t_sn n (s_fd n (s_wd 11) (g.2.1 b)) = 0 then -1 else n 459 (t_sn n (s_fd n (s_wd 11) (g.2.1 b)))
theorem t_sn_r (h : o_I g m n) (hy : s_no n y) : (n 457 (o_ln n y) = 0 ∧ t_sn n y = 0) ∨ (n 457 (o_ln n y) ≠ 0 ∧ t_sn n y = o_ln n y ∧ o_u n (o_ln n y) ∧ n 457 (o_ln n y) = 1 ∧ m 371 (o_ln n y) = n 458 (o_ln n y) ∧ m 372 (o_ln n y) = n 459 (o_ln n y) ∧ 0 ≤ n 458 (o_ln n y) ∧ 0 ≤ n 459 (o_ln n y) ∧ n 459 (o_ln n y) ≤ 8000 ∧ n 458 (o_ln n y) + n 459 (o_ln n y) ≤ n 428 34) := by
  obtain ⟨l1, l2, l3⟩ := o_ln_r h hy
  unfold t_sn t_st
  by_cases q : n 457 (o_ln n y) = 0
  · rw [if_pos q]; exact Or.inl ⟨q, rfl⟩
  · rw [if_neg q]
    have nz : o_ln n y ≠ 0 := fun w => by
      have := (h.n0 (k := 0) ⟨by decide, by decide⟩ (fun z => by have := z.1; omega)).2.1
      exact q (by rw [w]; exact this)
    obtain ⟨k1, k2, k3, k4, k5, k6, k7, k8⟩ := h.num (l3 nz)
    rcases k8 with ⟨k8, k9⟩ | ⟨k8, k9, k10, k11, k12, k13, k14, k15⟩
    · exact absurd k8 q
    · exact Or.inr ⟨q, rfl, l3 nz, k8, k10, k11, k12, k13, k14, k15⟩
theorem c_isS (h : o_I g m n) (hy : s_no n y) (H1 : t_sn n y = o_ln n y → t_sn n y ≠ 0 → Q 1 m) (H0 : t_sn n y = 0 → Q 0 m) : xc_ta_isStream (d + 1) (o_ln n y) m Q := by
  rcases t_sn_r h hy with ⟨z1, z2⟩ | ⟨z1, z2, z3, z4, z5, z6, z7, z8, z9, z10⟩
  · refine c_isS_n (d := d) (fun w => ?_) (H0 z2)
    obtain ⟨l1, l2, l3⟩ := o_ln_r h hy
    have nz : o_ln n y ≠ 0 := by have := w.1.1; omega
    obtain ⟨k1, k2, k3, k4, k5, k6, k7, k8⟩ := h.num (l3 nz)
    rcases k8 with ⟨k8, k9⟩ | ⟨k8, k9, k10, k11, k12, k13, k14⟩
    · have := w.2; omega
    · omega
  · obtain ⟨k1, k2, k3, k4, k5, k6, k7, k8⟩ := h.num z3
    have u1 := z3.1
    exact c_isS_y (d := d) k2 k3 (by omega) (H1 z2 (by omega))
/-- the class: nothing is copied into a row of none -/
theorem c_copy0 (h : o_I g m n) (hu : o_u n t) (hs : 0 ≤ m 371 t) (hl : 0 ≤ m 372 t ∧ m 372 t ≤ 8000) (ha : 0 ≤ a ∧ a ≤ 2000000000) (hQ : Q 0 m) : xc_ta_copy (d + 3) t 403 a m Q := by
  obtain ⟨k1, k2, k3, k4, k5, k6, k7, k8⟩ := h.num hu
  have l0 : w_ln 403 = 0 := w_ln_eq s0_403
  apply xr_ta_copy
  rw [if_neg (by omega)]
  refine c_length_y (d := d) k2 k3 hs ?_
  refine ⟨⟨1, 0, s0_403, by decide, by decide⟩, ?_⟩
  rw [l0, w_32_id (x := 0 - a) (by omega) (by omega)]
  apply xr_ta_copy_20
  refine c_begin_y (d := d) k2 k3 hs ?_
  rw [if_neg (by omega)]
  exact hQ
theorem c_gath (h : o_I g m n) : ∀ (L : List Int) (x a : Int), (∀ y ∈ L, 0 ≤ y ∧ y < n 428 15) → (L = [] ∨ ∃ y L', L = y :: L' ∧ x = g.1 y ∧ (L' ≠ [] → s_ch n (n 428 15) (n 437 y) L')) → 0 ≤ a → a + 8001 * L.length ≤ 2000000000 → Q (t_sm n L a) m → xp_tr_gather_106 (d + 3) 403 x a L.length m Q := by
  have bd := h.bd
  intro L
  induction L with
  | nil =>
    intro x a _ _ a0 ha hQ
    apply xr_tr_gather_106
    rw [if_neg (by decide)]
    exact hQ
  | cons y L ih =>
    intro x a hm hx a0 ha hQ
    have hx : x = g.1 y ∧ (L ≠ [] → s_ch n (n 428 15) (n 437 y) L) := by
      rcases hx with hx | ⟨y', L', e, e2, e3⟩
      · cases hx
      · obtain ⟨e4, e5⟩ := List.cons.inj e
        subst e4 e5
        exact ⟨e2, e3⟩
    have yr := hm y (List.mem_cons_self ..)
    have nd := h.1.2.1 y yr.1 yr.2
    have n1 := nd.1
    have n2 := nd.2.1
    have l0 : w_ln 403 = 0 := w_ln_eq s0_403
    have len : ((y :: L).length : Int) = L.length + 1 := by rw [List.length_cons]; rfl
    rw [len] at ha
    have Lp : (0 : Int) ≤ L.length := Int.natCast_nonneg _
    apply xr_tr_gather_106
    rw [len, if_pos (by omega), hx.1]
    have tg := c_target (d := d + 2) (Q := fun r1 m1 => xc_ta_isStream (d + 3) r1 m1 (fun r2 m2 => if r2 = 0 then (Q (-1) m2) else (xc_ta_copy (d + 3) r1 403 a m2 (fun r3 m3 => xc_ta_lengthOf (d + 3) r1 m3 (fun r4 m4 => if 1 < ((L.length : Int) + 1) then (w_isR 403 ∧ (if (w_32 (a + r4)) < (w_ln 403) then (w_isA 1 403 ∧ w_wr (w_G0 sC) (Int.toNat 403) ∧ ((0 : Int) ≤ (w_32 (a + r4)) ∧ (w_32 (a + r4)) < w_ln 403) ∧ (xc_st_nextOf (d + 3) (g.1 y) (w_up m4 403 (w_32 (a + r4)) (w_8 10)) (fun r5 m5 => xp_tr_gather_106 (d + 3) 403 r5 (w_32 (w_32 (a + r4) + 1)) (w_32 ((L.length : Int) + 1 + (-1))) m5 Q))) else (xc_st_nextOf (d + 3) (g.1 y) m4 (fun r6 m6 => xp_tr_gather_106 (d + 3) 403 r6 (w_32 (w_32 (a + r4) + 1)) (w_32 ((L.length : Int) + 1 + (-1))) m6 Q)))) else (xc_st_nextOf (d + 3) (g.1 y) m4 (fun r7 m7 => xp_tr_gather_106 (d + 3) 403 r7 (w_32 (a + r4)) (w_32 ((L.length : Int) + 1 + (-1))) m7 Q))))))) h (Or.inr yr)
    rw [s_up_y yr.1] at tg
    refine tg ?_
    refine c_isS (d := d + 2) h (Or.inr yr) (fun z1 z2 => ?_) (fun z => ?_)
    · rw [if_neg (by decide)]
      rcases t_sn_r h (Or.inr yr) with ⟨y1, y2⟩ | ⟨y1, y2, y3, y4, y5, y6, y7, y8, y9, y10⟩
      · exact absurd y2 z2
      · obtain ⟨k1, k2, k3, k4, k5, k6, k7, k8⟩ := h.num y3
        have hsm : t_sm n (y :: L) a = t_sm n L (a + n 459 (o_ln n y) + (if L = [] then 0 else 1)) := by
          show (if t_sn n y = 0 then -1 else t_sm n L (a + n 459 (t_sn n y) + (if L = [] then 0 else 1))) = _
          rw [if_neg z2, z1]
        rw [hsm] at hQ
        refine c_copy0 (d := d) h y3 (by omega) (by omega) (by omega) ?_
        refine c_length_y (d := d + 1) k2 k3 (by omega) ?_
        rw [y6, w_32_id (x := a + n 459 (o_ln n y)) (by omega) (by omega), w_32_id (x := (L.length : Int) + 1 + -1) (by omega) (by omega), show (L.length : Int) + 1 + -1 = L.length by omega]
        have nx : f_st_nextOf m (g.1 y) = m 363 (g.1 y) := f_next_v ⟨by omega, n2⟩ (by omega)
        by_cases q : L = []
        · rw [if_pos q] at hQ
          rw [if_neg (by rw [q]; decide)]
          refine sp_st_nextOf (d := d + 2) ?_
          refine ih _ _ (fun t ht => hm t (List.mem_cons_of_mem _ ht)) (Or.inl q) (by omega) (by omega) ?_
          rw [Int.add_zero] at hQ
          exact hQ
        · have L1 : (1 : Int) ≤ L.length := by
            cases L with
            | nil => exact absurd rfl q
            | cons _ _ => rw [List.length_cons]; omega
          rw [if_neg q] at hQ
          rw [if_pos (by omega)]
          refine ⟨⟨1, 0, s0_403, by decide, by decide⟩, ?_⟩
          rw [l0, if_neg (by omega), w_32_id (x := a + n 459 (o_ln n y) + 1) (by omega) (by omega)]
          refine sp_st_nextOf (d := d + 2) ?_
          rw [nx]
          refine ih _ _ (fun t ht => hm t (List.mem_cons_of_mem _ ht)) (Or.inr ?_) (by omega) (by omega) hQ
          have ch := hx.2 q
          cases L with
          | nil => exact absurd rfl q
          | cons u L' =>
            refine ⟨u, L', rfl, ?_, fun _ => ch.2.2.2⟩
            have lk := nd.2.2.2.2.2.2.2.2.2.1
            rcases lk with b2 | ⟨b1, b2, b3⟩
            · have c1 := ch.1
              have c2 := ch.2.1
              omega
            · rw [b3, ch.1]
    · rw [if_pos rfl]
      have hsm : t_sm n (y :: L) a = -1 := by
        show (if t_sn n y = 0 then -1 else t_sm n L (a + n 459 (t_sn n y) + (if L = [] then 0 else 1))) = _
        rw [if_pos z]
      rw [hsm] at hQ
      exact hQ
theorem c_gather0 (h : o_I g m n) (hd : t_dk n x) (hQ : Q (t_ct g n (n 455 x)) m) : xc_tr_gather (d + 4) x 403 m Q := by
  have bd := h.bd
  obtain ⟨k1, k2, k3, k4, k5, k6, k7, k8⟩ := h.num hd.1
  have r0 : 0 ≤ n 455 x ∧ n 455 x < n 428 15 := ⟨k6.1, k6.2.1⟩
  have no := h.fdn (w := s_wd 11) r0 hd.2
  have n11 := h.enn (k := 11) r0 hd.2
  obtain ⟨b, hb⟩ : ∃ b, b = n 455 x := ⟨_, rfl⟩
  rw [← hb] at hQ r0 no n11
  unfold t_ct at hQ
  apply xr_tr_gather
  refine c_root_y (d := d + 2) h hd.1 ?_
  rw [← hb]
  have h7 := hd.2
  rw [← hb] at h7
  refine sp_st_entry (d := d) h.1 h.2.1 (by decide) r0 h7 ?_
  refine c_value (d := d) h no ?_
  rw [show o_re n (s_fd n (s_wd 11) (g.2.1 b)) = o_en g n b 11 from rfl]
  refine sp_st_kindOf (d := d + 2) ?_
  by_cases q : t_no n (o_en g n b 11)
  · rw [if_pos q] at hQ
    rw [if_pos ((o_kdn h n11).mpr q)]
    exact hQ
  · rw [if_neg q] at hQ
    rw [if_neg (fun w => q ((o_kdn h n11).mp w))]
    refine sp_st_kindOf (d := d + 2) ?_
    have z0 : ¬ o_en g n b 11 < 0 := fun w => q (Or.inl w)
    have zr : 0 ≤ o_en g n b 11 ∧ o_en g n b 11 < n 428 15 := by unfold s_no at n11; omega
    rw [o_kd h n11, if_neg z0, show o_up g (o_en g n b 11) = g.1 (o_en g n b 11) from if_neg z0]
    obtain ⟨z, hz⟩ : ∃ z, z = o_en g n b 11 := ⟨_, rfl⟩
    rw [← hz] at hQ zr ⊢
    by_cases q6 : n 432 z = 6
    · rw [if_pos q6] at hQ
      rw [if_pos q6]
      have nd := h.1.2.1 z zr.1 zr.2
      have n1 := nd.1
      have n2 := nd.2.1
      have ls := (h.1.2.2.2.2 z zr.1 zr.2 (Or.inl q6)).1
      have len := ls.1.len bd.1.1
      apply xr_tr_gather_61
      rw [if_neg (by decide)]
      refine sp_st_firstPart (d := d + 2) ?_
      rw [if_neg (by decide)]
      refine sp_st_parts (d := d + 2) ?_
      rw [f_first_v ⟨by omega, n2⟩ (by omega) (by rw [nd.2.2.1]; exact Or.inl q6), f_parts_v ⟨by omega, n2⟩ (by omega) (by rw [nd.2.2.1]; exact Or.inl q6)]
      have p9 := nd.2.2.2.2.2.2.2.2.1 (Or.inl q6)
      rw [p9.1, ls.2.1]
      refine c_gath (d := d) h (g.2.1 z) _ 0 (fun y hy => ls.1.mem y hy) ?_ (by decide) (by omega) hQ
      have l1 := ls.1
      cases hL : g.2.1 z with
      | nil => exact Or.inl rfl
      | cons y L =>
        refine Or.inr ⟨y, L, rfl, ?_, fun _ => ?_⟩
        · rw [hL] at l1
          rcases p9.2 with ⟨b1, b2⟩ | ⟨b1, b2, b3⟩
          · have c1 := l1.1
            have c2 := l1.2.1
            omega
          · rw [b3, l1.1]
        · rw [hL] at l1
          exact l1.2.2.2
    · rw [if_neg q6] at hQ
      rw [if_neg q6]
      apply xr_tr_gather_61
      rw [if_pos rfl, if_pos rfl]
      obtain ⟨y, hy⟩ : ∃ y, y = s_fd n (s_wd 11) (g.2.1 b) := ⟨_, rfl⟩
      rw [← hy] at hQ no ⊢
      have yr : 0 ≤ y ∧ y < n 428 15 := by
        rcases no with no | no
        · exfalso
          have : o_en g n b 11 = -1 := by
            unfold o_en o_re
            rw [← hy, o_rs_n (by omega)]
          omega
        · exact no
      rw [s_up_y yr.1]
      refine c_gath (d := d) h [y] _ 0 (fun t ht => by
        rcases List.mem_cons.mp ht with e | e
        · rw [e]; exact yr
        · cases e) (Or.inr ⟨y, [], rfl, rfl, fun w => absurd rfl w⟩) (by decide) (by show (0 : Int) + 8001 * ((1 : Nat) : Int) ≤ 2000000000; decide) ?_
      have e : t_sm n [y] 0 = if t_sn n y = 0 then -1 else n 459 (t_sn n y) := by
        show (if t_sn n y = 0 then -1 else t_sm n [] (0 + n 459 (t_sn n y) + (if ([] : List Int) = [] then 0 else 1))) = _
        rw [if_pos (show ([] : List Int) = [] from rfl)]
        show (if t_sn n y = 0 then -1 else 0 + n 459 (t_sn n y) + 0) = _
        rw [Int.zero_add, Int.add_zero]
      rw [e]
      exact hQ
theorem r_streamNumber (h : o_I g m n) (e : e80 n n1) (hy : s_no n y) (hQ : ∀ n2, e80 n n2 → Q (t_sn n y) n2) : xc_m_streamNumber (d + 4) y n1 Q := by
  have bd := h.bd
  obtain ⟨l1, l2, l3⟩ := o_ln_r h hy
  have z0 : o_ln n y = 0 → t_sn n y = 0 := fun w => by
    rcases t_sn_r h hy with z | z
    · exact z.2
    · have := z.2.2.1.1
      omega
  apply xr_m_streamNumber
  by_cases q0 : y < 0
  · rw [if_pos q0]
    have e0 : t_sn n y = 0 := z0 (by unfold o_ln; rw [o_rs_n q0])
    rw [e0] at hQ
    exact hQ n1 e
  · rw [if_neg q0, e 432 y (by omega)]
    refine ⟨by unfold s_no at hy; omega, ?_⟩
    by_cases q8 : n 432 y = 8
    · rw [if_pos q8]
      refine r_resolve2 (d := d) h e hy (fun n2 e2 e80' => ?_)
      rw [e80', e2.big (by decide)]
      refine ⟨⟨l1, l2⟩, ?_⟩
      unfold t_sn t_st at hQ
      refine z_ite (fun q => ?_) (fun q => ?_)
      · rw [if_pos q] at hQ; exact hQ n2 e2
      · rw [if_neg q] at hQ; exact hQ n2 e2
    · rw [if_neg q8]
      have e0 : t_sn n y = 0 := z0 (by unfold o_ln; rw [o_rs_p (by omega) q8])
      rw [e0] at hQ
      exact hQ n1 e
theorem r_cont (h : o_I g m n) : ∀ (L : List Int) (x a : Int) (n1 : w_M), e80 n n1 → s_ch n (n 428 15) x L → 0 ≤ a → a + 8001 * L.length ≤ 2000000000 → (∀ n2, e80 n n2 → Q (t_sm n L a) n2) → xp_m_contentsOf_76 (d + 4) a x n1 Q := by
  have bd := h.bd
  intro L
  induction L with
  | nil =>
    intro x a n1 e hc a0 ha hQ
    have hx : x = -1 := hc
    apply xr_m_contentsOf_76
    rw [if_pos (by omega)]
    exact hQ n1 e
  | cons y L ih =>
    intro x a n1 e hc a0 ha hQ
    obtain ⟨c1, c2, c3, c4⟩ := hc
    subst c1
    have len : ((x :: L).length : Int) = L.length + 1 := by rw [List.length_cons]; rfl
    rw [len] at ha
    have Lp : (0 : Int) ≤ L.length := Int.natCast_nonneg _
    apply xr_m_contentsOf_76
    rw [if_neg (by omega)]
    refine r_streamNumber (d := d) h e (Or.inr ⟨c2, c3⟩) (fun n2 e2 => ?_)
    have hsm : t_sm n (x :: L) a = if t_sn n x = 0 then -1 else t_sm n L (a + n 459 (t_sn n x) + (if L = [] then 0 else 1)) := rfl
    rw [hsm] at hQ
    rcases t_sn_r h (Or.inr ⟨c2, c3⟩) with ⟨y1, y2⟩ | ⟨y1, y2, y3, y4, y5, y6, y7, y8, y9, y10⟩
    · rw [if_pos y2] at hQ
      rw [if_pos y2]
      exact hQ n2 e2
    · have u1 := y3.1
      obtain ⟨k1, k2, k3, k4, k5, k6, k7, k8⟩ := h.num y3
      rw [if_neg (by omega), y2] at hQ
      rw [if_neg (by omega), y2, e2.big (by decide), e2.big (by decide)]
      refine ⟨by omega, by omega, ?_⟩
      cases L with
      | nil =>
        have hx : n 437 x = -1 := c4
        rw [if_pos (show ([] : List Int) = [] from rfl)] at hQ
        rw [if_pos (by omega), w_32_id (x := n 459 (o_ln n x) + 0) (by omega) (by omega), w_32_id (x := a + (n 459 (o_ln n x) + 0)) (by omega) (by omega)]
        refine ⟨by omega, ih _ _ n2 e2 c4 (by omega) (by omega) ?_⟩
        rw [show a + (n 459 (o_ln n x) + 0) = a + n 459 (o_ln n x) + 0 by omega]
        exact hQ
      | cons u L' =>
        rw [if_neg (show ¬ (u :: L') = [] from fun w => by cases w)] at hQ
        have u0 := c4.1
        have u2 := c4.2.1
        rw [if_neg (by omega), w_32_id (x := n 459 (o_ln n x) + 1) (by omega) (by omega), w_32_id (x := a + (n 459 (o_ln n x) + 1)) (by omega) (by omega)]
        refine ⟨by omega, ih _ _ n2 e2 c4 (by omega) (by omega) ?_⟩
        rw [show a + (n 459 (o_ln n x) + 1) = a + n 459 (o_ln n x) + 1 by omega]
        exact hQ
theorem r_contentsOf (h : o_I g m n) (e : e80 n n1) (hd : t_dk n x) (hQ : ∀ n2, e80 n n2 → Q (t_ct g n (n 455 x)) n2) : xc_m_contentsOf (d + 8) x n1 Q := by
  have bd := h.bd
  obtain ⟨k1, k2, k3, k4, k5, k6, k7, k8⟩ := h.num hd.1
  have x1 := hd.1.1
  have r0 : 0 ≤ n 455 x ∧ n 455 x < n 428 15 := ⟨k6.1, k6.2.1⟩
  have no := h.fdn (w := s_wd 11) r0 hd.2
  have n11 := h.enn (k := 11) r0 hd.2
  have h7 := hd.2
  obtain ⟨b, hb⟩ : ∃ b, b = n 455 x := ⟨_, rfl⟩
  rw [← hb] at hQ r0 no n11 h7
  unfold t_ct at hQ
  apply xr_m_contentsOf
  refine ⟨by omega, ?_⟩
  rw [e.big (by decide), ← hb]
  refine r_raw2 (d := d + 1) h e t_mContents r0 h7 ?_
  refine r_resolve2 (d := d + 4) h e no (fun n2 e2 _ => ?_)
  show xc_m_isNothing (d + 7) (o_en g n b 11) n2 _
  refine r_isNothing (d := d + 6) h e2 n11 (fun q => ?_) (fun q => ?_)
  · rw [if_pos q] at hQ
    rw [if_neg (by decide)]
    exact hQ n2 e2
  · rw [if_neg q] at hQ
    have z0 : ¬ o_en g n b 11 < 0 := fun w => q (Or.inl w)
    have zr : 0 ≤ o_en g n b 11 ∧ o_en g n b 11 < n 428 15 := by unfold s_no at n11; omega
    show (if (0 : Int) = 0 then ((0 ≤ o_en g n b 11 ∧ o_en g n b 11 < 40000) ∧ _) else _)
    rw [if_pos rfl]
    obtain ⟨z, hz⟩ : ∃ z, z = o_en g n b 11 := ⟨_, rfl⟩
    rw [← hz] at hQ zr ⊢
    refine ⟨by omega, ?_⟩
    show (if n2 432 (o_en g n b 11) = 6 then ((0 ≤ o_en g n b 11 ∧ o_en g n b 11 < 40000) ∧ xp_m_contentsOf_76 (d + 7) 0 (n2 436 (o_en g n b 11)) n2 Q) else _)
    rw [← hz, e2.big (by decide), e2.big (by decide)]
    by_cases q6 : n 432 z = 6
    · rw [if_pos q6] at hQ
      rw [if_pos q6]
      have ls := (h.1.2.2.2.2 z zr.1 zr.2 (Or.inl q6)).1
      have len := ls.1.len bd.1.1
      exact ⟨by omega, r_cont (d := d + 3) h (g.2.1 z) _ 0 n2 e2 ls.1 (by decide) (by omega) hQ⟩
    · rw [if_neg q6] at hQ
      rw [if_neg q6]
      refine r_streamNumber (d := d + 3) h e2 no (fun n3 e3 => ?_)
      rcases t_sn_r h no with ⟨y1, y2⟩ | ⟨y1, y2, y3, y4, y5, y6, y7, y8, y9, y10⟩
      · rw [if_pos y2] at hQ
        rw [if_pos y2]
        exact hQ n3 e3
      · obtain ⟨k1, k2, k3, k4, k5, k6, k7, k8⟩ := h.num y3
        have u1 := y3.1
        rw [if_neg (by omega)] at hQ
        rw [if_neg (by omega), e3.big (by decide)]
        exact ⟨by omega, hQ n3 e3⟩
end OC
