/-! ===== filters: what a dict says of them ===== -/
/-- a whole that stands in a dict -/
noncomputable def z_wh (g : s_g) (n : w_M) (q k w : Int) : Int := if s_fd n (s_wd k) (g.2.1 q) < 0 then w else if n 432 (s_fd n (s_wd k) (g.2.1 q)) = 2 then n 433 (s_fd n (s_wd k) (g.2.1 q)) else -1
/-- the names of the filters -/
def z_ns (g : s_g) (n : w_M) (f : Int) : List Int := if f < 0 then [] else if n 432 f = 4 then [f] else if n 432 f = 6 then g.2.1 f else []
/-- the names are right -/
def z_n1 (g : s_g) (n : w_M) (f : Int) : Prop := f < 0 ∨ ((n 432 f = 4 ∨ (n 432 f = 6 ∧ (g.2.1 f).length ≤ 3)) ∧ ∀ y ∈ z_ns g n f, s_nk n y (s_wd 23) ∨ s_nk n y (s_wd 24))
/-- the parameters are there as they must -/
def z_n2 (g : s_g) (n : w_M) (f p : Int) : Prop := p < 0 ∨ f < 0 ∨ n 432 p = 0 ∨ (n 432 p = 7 ∧ (z_ns g n f).length = 1) ∨ (n 432 p = 6 ∧ (g.2.1 p).length = (z_ns g n f).length)
/-- those of the k-th filter -/
def z_pm (g : s_g) (n : w_M) (p : Int) (k : Nat) : Int := if p < 0 then -1 else if n 432 p = 6 then (g.2.1 p).getD k (-1) else p
def z_ip2 (g : s_g) (n : w_M) (q : Int) : Prop := z_wh g n q 25 1 = 1 ∨ (10 ≤ z_wh g n q 25 1 ∧ z_wh g n q 25 1 ≤ 15 ∧ 1 ≤ z_wh g n q 26 1 ∧ z_wh g n q 26 1 ≤ 200 ∧ z_wh g n q 27 1 = 1 ∧ z_wh g n q 28 8 = 8)
def z_n3 (g : s_g) (n : w_M) (f p : Int) : Prop := ∀ k : Nat, k < (z_ns g n f).length → z_pm g n p k < 0 ∨ n 432 (z_pm g n p k) = 0 ∨ (n 432 (z_pm g n p k) = 7 ∧ (s_nk n ((z_ns g n f).getD k 0) (s_wd 23) → z_ip2 g n (z_pm g n p k)))
noncomputable def z_fl (n : w_M) (y : Int) : Int := by classical exact (if s_nk n y (s_wd 23) then 1 else 0)
noncomputable def z_co (g : s_g) (n : w_M) (y q : Int) : Int := if z_fl n y = 0 ∨ q < 0 ∨ n 432 q ≠ 7 ∨ z_wh g n q 25 1 < 10 then 0 else z_wh g n q 26 1
/-- all of it is right -/
def z_ok (g : s_g) (n : w_M) (f p : Int) : Prop := z_n1 g n f ∧ z_n2 g n f p ∧ z_n3 g n f p
/-- what is to be done -/
noncomputable def z_do (g : s_g) (n : w_M) (p : Int) : Nat → List Int → List (Int × Int)
  | _, [] => []
  | k, y :: l => (z_fl n y, z_co g n y (z_pm g n p k)) :: z_do g n p (k + 1) l
section FC
variable {d : Nat} {g : s_g} {m m' m2 n n' n2 : w_M} {Q : Int → w_M → Prop} {b f p q k w y x i s N : Int} {l L : List Int}
theorem z_fl_1 (h : s_nk n y (s_wd 23)) : z_fl n y = 1 := if_pos h
theorem z_fl_0 (h : ¬ s_nk n y (s_wd 23)) : z_fl n y = 0 := if_neg h
theorem s_st.fd (h : s_st g m n) (hb : 0 ≤ b ∧ b < n 428 15) (h7 : n 432 b = 7) : s_no n (s_fd n l (g.2.1 b)) := by
  rcases s_fd_r n l (g.2.1 b) with e | e
  · exact Or.inl e
  · have := (h.di hb h7).2.2 _ e
    exact Or.inr ⟨this.1, this.2.1⟩
-- the class
theorem sp_fi_wholeOr (h : s_st g m n) (hw : s_kw m) (hk : 1 ≤ k ∧ k ≤ 40) (hb : 0 ≤ b ∧ b < n 428 15) (h7 : n 432 b = 7) (hw0 : 0 ≤ w) (hQ : Q (max (-1) (z_wh g n b k w)) m) : xc_fi_wholeOr (d + 4) (g.1 b) k w m Q := by
  have no := h.fd (l := s_wd k) hb h7
  unfold z_wh at hQ
  apply xr_fi_wholeOr
  refine sp_st_entry h hw hk hb h7 ?_
  by_cases q : s_fd n (s_wd k) (g.2.1 b) < 0
  · rw [if_pos q] at hQ
    rw [s_up_n q, if_pos (by decide)]
    rw [show max (-1) w = w by omega] at hQ
    exact hQ
  · have kd := h.kd no
    rw [if_neg q] at hQ
    rcases h.no no with z | ⟨a1, a2, a3, a4, a5, a6, a7⟩
    · omega
    · rw [if_neg (by rw [a3]; omega)]
      refine sp_st_kindOf ?_
      have e : s_kd n (s_fd n (s_wd k) (g.2.1 b)) = n 432 (s_fd n (s_wd k) (g.2.1 b)) := if_neg q
      rw [kd, e]
      by_cases q2 : n 432 (s_fd n (s_wd k) (g.2.1 b)) = 2
      · rw [if_pos q2] at hQ ⊢
        refine sp_st_oneOf ?_
        rw [h.one no (by rw [e]; omega)]
        exact hQ
      · rw [if_neg q2] at hQ ⊢
        exact hQ
/-- in the class: as many names as were read, which they are -/
def z_cs (n m : w_M) (i : Int) (l : List Int) : Prop := m 378 6 = i ∧ ∀ k : Nat, (k : Int) < i → m 389 k = z_fl n (l.getD k 0) ∧ m 390 k = 0
theorem sp_readName1 (h : s_st g m n) (hw : s_kw m) (hy : 0 ≤ y ∧ y < n 428 15) (hi : 0 ≤ i ∧ i < 3) (h6 : m 378 6 = i) (h1 : (s_nk n y (s_wd 23) ∨ s_nk n y (s_wd 24)) → Q 1 (w_up (w_up (w_up m 389 i (z_fl n y)) 390 i 0) 378 6 (i + 1))) (h0 : ¬ (s_nk n y (s_wd 23) ∨ s_nk n y (s_wd 24)) → Q 0 m) : xc_fi_readName (d + 4) (g.1 y) m Q := by
  have no : s_no n y := Or.inr hy
  have up : g.1 y = s_up g.1 y := (s_up_y hy.1).symm
  apply xr_fi_readName
  rw [up]
  refine sp_st_isName h hw (by decide) no (fun q => ?_) (fun q => ?_)
  · rw [z_fl_1 q] at h1
    rw [h6, if_pos hi.2, if_neg (by decide), w_32_id (x := i + 1) (by omega) (by omega)]
    exact ⟨hi, Or.inr rfl, hi, h1 (Or.inl q)⟩
  · rw [z_fl_0 q] at h1
    rw [h6, if_pos hi.2, if_pos rfl]
    refine sp_st_isName h hw (by decide) no (fun q2 => ?_) (fun q2 => ?_)
    · rw [if_neg (by decide), h6, w_32_id (x := i + 1) (by omega) (by omega)]
      exact ⟨hi, Or.inl rfl, hi, h1 (Or.inr q2)⟩
    · rw [if_pos rfl]
      exact h0 (fun z => z.elim q q2)
theorem z_cs.nx (h : z_cs n m i l) (hi : 0 ≤ i ∧ i < 3) {pre suf : List Int} (hl : l = pre ++ y :: suf) (hp : i = pre.length) : z_cs n (w_up (w_up (w_up m 389 i (z_fl n y)) 390 i 0) 378 6 (i + 1)) (i + 1) l ∧ z_cf m (w_up (w_up (w_up m 389 i (z_fl n y)) 390 i 0) 378 6 (i + 1)) := by
  refine ⟨⟨w_up_eq, fun k hk => ?_⟩, fun a b q1 q2 q3 q4 => by unfold w_up; rw [if_neg (by omega), if_neg (by omega), if_neg (by omega)]⟩
  by_cases z : (k : Int) = i
  · have ez : l.getD k 0 = y := by
      have : k = pre.length := by omega
      rw [hl, this, List.getD_eq_getElem?_getD, List.getElem?_append_right (Nat.le_refl _), Nat.sub_self]
      rfl
    rw [z, ez]
    refine ⟨?_, ?_⟩
    · rw [w_up_ne (by decide), w_up_ne (by decide), w_up_eq]
    · rw [w_up_ne (by decide), w_up_eq]
  · obtain ⟨y1, y2⟩ := h.2 k (by omega)
    refine ⟨?_, ?_⟩
    · rw [w_up_ne (by decide), w_up_ne (by decide), w_up_nb z]; exact y1
    · rw [w_up_ne (by decide), w_up_nb z]; exact y2
theorem sp_readNames_60 (hb : 0 ≤ f ∧ f < n 428 15) (h6 : n 432 f = 6) (hlen : (g.2.1 f).length ≤ 3) : ∀ (suf pre : List Int) (m : w_M), s_st g m n → s_kw m → g.2.1 f = pre ++ suf → z_cs n m pre.length (g.2.1 f) → (∀ y ∈ pre, s_nk n y (s_wd 23) ∨ s_nk n y (s_wd 24)) →
    ((∀ y ∈ g.2.1 f, s_nk n y (s_wd 23) ∨ s_nk n y (s_wd 24)) → ∀ m', z_cf m m' → z_cs n m' (g.2.1 f).length (g.2.1 f) → Q 1 m') → ((¬ ∀ y ∈ g.2.1 f, s_nk n y (s_wd 23) ∨ s_nk n y (s_wd 24)) → ∀ m', z_cf m m' → Q 0 m') → xp_fi_readNames_60 (d + 4) (g.1 f) pre.length m Q := by
  intro suf
  have no : s_no n f := Or.inr hb
  have kd6 : s_kd n f = 6 := (if_neg (by omega)).trans h6
  have up : s_up g.1 f = g.1 f := s_up_y hb.1
  induction suf with
  | nil =>
    intro pre m h hw hl hs hp H1 H0
    have e : g.2.1 f = pre := by rw [hl, List.append_nil]
    obtain ⟨p1, p2, p3, p4⟩ := h.prt no (Or.inl kd6)
    rw [up] at p1
    apply xr_fi_readNames_60
    refine sp_st_parts ?_
    rw [p1, p4, e, if_neg (by omega)]
    rw [e] at H1 hs
    exact H1 hp m z_cf.rf hs
  | cons y suf ih =>
    intro pre m h hw hl hs hp H1 H0
    obtain ⟨p1, p2, p3, p4⟩ := h.prt no (Or.inl kd6)
    rw [up] at p1
    have hlen2 : (g.2.1 f).length = pre.length + (suf.length + 1) := by rw [hl, List.length_append]; rfl
    have hy : y ∈ g.2.1 f := by rw [hl]; exact List.mem_append_right _ (List.mem_cons_self ..)
    have hch := (h.2.2.2.2 f hb.1 hb.2 (Or.inl h6)).1.1.mem y hy
    have hget : (g.2.1 f).getD pre.length (-1) = y := by
      rw [hl, List.getD_eq_getElem?_getD, List.getElem?_append_right (Nat.le_refl _), Nat.sub_self]
      rfl
    obtain ⟨K, hK⟩ : ∃ K : Int, K = pre.length := ⟨_, rfl⟩
    rw [← hK] at hs ⊢
    apply xr_fi_readNames_60
    refine sp_st_parts ?_
    rw [p1, p4, if_pos (by omega)]
    rw [← up]
    refine sp_st_part h no (Or.inl kd6) (by omega) ?_
    rw [if_neg (by omega), hK, Int.toNat_natCast, hget, s_up_y hch.1, ← hK]
    refine sp_readName1 (i := K) h hw hch (by omega) hs.1 (fun z => ?_) (fun z => ?_)
    · rw [if_neg (by decide), up, w_32_id (x := K + 1) (by omega) (by omega)]
      obtain ⟨n1, n2⟩ := hs.nx (by omega) hl hK
      have len1 : ((pre ++ [y]).length : Int) = K + 1 := by rw [t_len, hK]
      have := ih (pre ++ [y]) _ (n2.st h) (n2.kw h hw) (by rw [hl, List.append_assoc]; rfl) (by rw [len1]; exact n1) (fun y' hy' => by
        rcases List.mem_append.mp hy' with w | w
        · exact hp y' w
        · rw [List.mem_singleton.mp w]; exact z) (fun a m' c1 c2 => H1 a m' (n2.tr c1) c2) (fun a m' c1 => H0 a m' (n2.tr c1))
      rw [len1] at this
      exact this
    · rw [if_pos rfl]
      exact H0 (fun w => z (w y hy)) m z_cf.rf
theorem sp_readNames (h : s_st g m n) (hw : s_kw m) (hb : 0 ≤ b ∧ b < n 428 15) (h7 : n 432 b = 7) (hf : f = s_fd n (s_wd 21) (g.2.1 b)) (h6 : m 378 6 = 0)
    (H1 : z_n1 g n f → ∀ m', z_cf m m' → z_cs n m' (z_ns g n f).length (z_ns g n f) → Q 1 m') (H0 : ¬ z_n1 g n f → ∀ m', z_cf m m' → Q 0 m') : xc_fi_readNames (d + 5) (g.1 b) m Q := by
  have no := h.fd (l := s_wd 21) hb h7
  rw [← hf] at no
  apply xr_fi_readNames
  refine sp_st_entry h hw (by decide) hb h7 ?_
  rw [← hf]
  refine sp_st_kindOf ?_
  rw [h.kd no]
  rcases h.no no with ⟨z1, z2⟩ | ⟨a1, a2, a3, a4, a5, a6, a7⟩
  · rw [z2, if_pos (by decide)]
    have e : z_ns g n f = [] := if_pos (by omega)
    refine H1 (Or.inl (by omega)) m z_cf.rf ?_
    rw [e]
    exact ⟨h6, fun k hk => absurd hk (by show ¬ (k : Int) < ((0 : Nat) : Int); omega)⟩
  · have ek : s_kd n f = n 432 f := if_neg (by omega)
    rw [if_neg (by rw [a3]; omega), ek]
    by_cases q4 : n 432 f = 4
    · rw [if_pos q4, a3]
      have e : z_ns g n f = [f] := (if_neg (by omega)).trans (if_pos q4)
      refine sp_readName1 (i := 0) h hw ⟨a1, a2⟩ (by decide) h6 (fun z => ⟨Or.inr rfl, ?_⟩) (fun z => ⟨Or.inl rfl, H0 (fun w => ?_) m z_cf.rf⟩)
      · have cs : z_cs n m 0 [f] := ⟨h6, fun k hk => absurd hk (by omega)⟩
        obtain ⟨n1, n2⟩ := cs.nx (y := f) (pre := []) (suf := []) (by decide) rfl rfl
        refine H1 (Or.inr ⟨Or.inl q4, fun y hy => ?_⟩) _ n2 (by rw [e]; exact n1)
        rw [e] at hy
        rw [List.mem_singleton.mp hy]
        exact z
      · rcases w with w | ⟨_, w⟩
        · omega
        · exact z (w f (by rw [e]; exact List.mem_singleton.mpr rfl))
    · rw [if_neg q4]
      by_cases q6 : n 432 f = 6
      · rw [if_pos q6]
        have e : z_ns g n f = g.2.1 f := (if_neg (by omega)).trans ((if_neg q4).trans (if_pos q6))
        obtain ⟨p1, p2, p3, p4⟩ := h.prt no (Or.inl (ek.trans q6))
        refine sp_st_parts ?_
        rw [p1]
        by_cases q3 : 3 < n 435 f
        · rw [if_pos q3]
          refine H0 (fun w => ?_) m z_cf.rf
          rcases w with w | ⟨w | w, _⟩
          · omega
          · omega
          · omega
        · rw [if_neg q3, a3]
          refine sp_readNames_60 ⟨a1, a2⟩ q6 (by omega) (g.2.1 f) [] m h hw rfl ⟨h6, fun k hk => absurd hk (by show ¬ (k : Int) < ((0 : Nat) : Int); omega)⟩ (fun y hy => by cases hy) (fun w m' c1 c2 => H1 (Or.inr ⟨Or.inr ⟨q6, by omega⟩, by rw [e]; exact w⟩) m' c1 (by rw [e]; exact c2)) (fun w m' c1 => H0 (fun v => ?_) m' c1)
          rcases v with v | ⟨_, v⟩
          · omega
          · rw [e] at v; exact w v
      · rw [if_neg q6]
        refine H0 (fun w => ?_) m z_cf.rf
        rcases w with w | ⟨w | w, _⟩ <;> omega
/-- parameters in the class, beside the reference's -/
def z_pa (g : s_g) (n : w_M) (x q : Int) : Prop := (x = 0 ∧ (q < 0 ∨ n 432 q = 0)) ∨ (0 ≤ q ∧ q < n 428 15 ∧ x = g.1 q)
/-- behind the parameters -/
def z_cp (g : s_g) (n m : w_M) (f p : Int) : Prop := m 378 6 = (z_ns g n f).length ∧ (z_ns g n f).length ≤ 3 ∧ ∀ k : Nat, k < (z_ns g n f).length → m 389 k = z_fl n ((z_ns g n f).getD k 0) ∧ z_pa g n (m 390 k) (z_pm g n p k)
theorem z_n1_3 (h : z_n1 g n f) : (z_ns g n f).length ≤ 3 := by
  unfold z_n1 at h
  unfold z_ns
  split
  · exact Nat.zero_le _
  · split
    · exact (by decide : 1 ≤ 3)
    · split
      · rcases h with h | ⟨h | h, _⟩
        · omega
        · omega
        · exact h.2
      · exact Nat.zero_le _
theorem sp_readParms_91 (h : s_st g m n) (hp : 0 ≤ p ∧ p < n 428 15) (h6 : n 432 p = 6) {F : Int} (hF : 0 ≤ F ∧ F ≤ 3) (hlen : ((g.2.1 p).length : Int) = F) : ∀ (j : Nat) (i : Int) (m1 : w_M), i + j = F → 0 ≤ i → z_cf m m1 → m1 378 6 = F → (∀ k, m1 389 k = m 389 k) → (∀ k : Nat, (k : Int) < i → m1 390 k = g.1 ((g.2.1 p).getD k (-1))) →
    (∀ m', z_cf m m' → m' 378 6 = F → (∀ k, m' 389 k = m 389 k) → (∀ k : Nat, (k : Int) < F → m' 390 k = g.1 ((g.2.1 p).getD k (-1))) → Q 1 m') → xp_fi_readParms_91 (d + 3) (g.1 p) i m1 Q := by
  intro j
  have no : s_no n p := Or.inr hp
  have kd6 : s_kd n p = 6 := (if_neg (by omega)).trans h6
  have up : s_up g.1 p = g.1 p := s_up_y hp.1
  induction j with
  | zero =>
    intro i m1 hi i0 hc e6 e9 e0 H
    apply xr_fi_readParms_91
    rw [e6, if_neg (by omega)]
    exact H m1 hc e6 e9 (fun k hk => e0 k (by omega))
  | succ j ih =>
    intro i m1 hi i0 hc e6 e9 e0 H
    apply xr_fi_readParms_91
    rw [e6, if_pos (by omega), if_pos (by omega), ← up]
    refine sp_st_part (hc.st h) no (Or.inl kd6) (by omega) ?_
    rw [if_neg (by omega), up, w_32_id (x := i + 1) (by omega) (by omega)]
    refine ⟨by omega, ?_⟩
    have hmem : (g.2.1 p).getD i.toNat (-1) ∈ g.2.1 p := by
      rw [List.getD_eq_getElem?_getD, List.getElem?_eq_getElem (by omega)]
      exact List.getElem_mem _
    have hch := (h.2.2.2.2 p hp.1 hp.2 (Or.inl h6)).1.1.mem _ hmem
    rw [s_up_y hch.1]
    refine ih (i + 1) _ (by omega) (by omega) (hc.tr (fun a b q1 q2 q3 q4 => by unfold w_up; rw [if_neg (by omega)])) (by rw [w_up_ne (by decide)]; exact e6) (fun k => by rw [w_up_ne (by decide)]; exact e9 k) (fun k hk => ?_) H
    by_cases z : (k : Int) = i
    · rw [z, w_up_eq, show i.toNat = k by omega]
    · rw [w_up_nb z]
      exact e0 k (by omega)
theorem sp_readParms (h : s_st g m n) (hw : s_kw m) (hb : 0 ≤ b ∧ b < n 428 15) (h7 : n 432 b = 7) (hf : f = s_fd n (s_wd 21) (g.2.1 b)) (hp : p = s_fd n (s_wd 22) (g.2.1 b)) (h1 : z_n1 g n f) (hs : z_cs n m (z_ns g n f).length (z_ns g n f))
    (H1 : z_n2 g n f p → ∀ m', z_cf m m' → z_cp g n m' f p → Q 1 m') (H0 : ¬ z_n2 g n f p → ∀ m', z_cf m m' → Q 0 m') : xc_fi_readParms (d + 4) (g.1 b) m Q := by
  have no := h.fd (l := s_wd 22) hb h7
  have no1 := h.fd (l := s_wd 21) hb h7
  rw [← hp] at no
  rw [← hf] at no1
  have l3 := z_n1_3 h1
  obtain ⟨F, hF⟩ : ∃ F : Int, F = (z_ns g n f).length := ⟨_, rfl⟩
  have up1 : s_up g.1 f < 0 ↔ f < 0 := by
    rcases h.no no1 with ⟨z1, z2⟩ | ⟨a1, a2, a3, a4, a5, a6, a7⟩ <;> omega
  -- parms as they were left: none
  have none : (f < 0 ∨ p < 0 ∨ n 432 p = 0) → z_cp g n m f p := by
    intro z
    refine ⟨hs.1, l3, fun k hk => ⟨(hs.2 k (by omega)).1, Or.inl ⟨(hs.2 k (by omega)).2, ?_⟩⟩⟩
    rcases z with z | z | z
    · have : z_ns g n f = [] := if_pos z
      rw [this] at hk
      exact absurd hk (Nat.not_lt_zero _)
    · left
      unfold z_pm
      rw [if_pos z]
      decide
    · unfold z_pm
      by_cases z2 : p < 0
      · rw [if_pos z2]; left; decide
      · rw [if_neg z2, if_neg (by omega)]
        exact Or.inr z
  apply xr_fi_readParms
  refine sp_st_entry h hw (by decide) hb h7 ?_
  rw [← hp]
  refine sp_st_kindOf ?_
  rw [h.kd no]
  rcases h.no no with ⟨z1, z2⟩ | ⟨a1, a2, a3, a4, a5, a6, a7⟩
  · rw [z2, if_pos (by decide)]
    exact H1 (Or.inl (by omega)) m z_cf.rf (none (by omega))
  · have ek : s_kd n p = n 432 p := if_neg (by omega)
    rw [if_neg (by rw [a3]; omega)]
    refine sp_st_entry h hw (by decide) hb h7 ?_
    rw [← hf]
    by_cases zf : f < 0
    · rw [if_pos (up1.mpr zf)]
      exact H1 (Or.inr (Or.inl zf)) m z_cf.rf (none (Or.inl zf))
    · rw [if_neg (fun w => zf (up1.mp w)), ek]
      by_cases q0 : n 432 p = 0
      · rw [if_pos q0]
        exact H1 (Or.inr (Or.inr (Or.inl q0))) m z_cf.rf (none (Or.inr (Or.inr q0)))
      · rw [if_neg q0]
        by_cases q7 : n 432 p = 7
        · rw [if_pos q7, hs.1]
          by_cases qF : F = 1
          · rw [if_pos (by omega), a3]
            refine H1 (Or.inr (Or.inr (Or.inr (Or.inl ⟨q7, by omega⟩)))) _ (fun a b q1 q2 q3 q4 => by unfold w_up; rw [if_neg (by omega)]) ⟨by rw [w_up_ne (by decide)]; exact hs.1, l3, fun k hk => ⟨by rw [w_up_ne (by decide)]; exact (hs.2 k (by omega)).1, Or.inr ?_⟩⟩
            have ek0 : (k : Int) = 0 := by omega
            have ep : z_pm g n p k = p := (if_neg (by omega)).trans (if_neg (by omega))
            rw [ek0, w_up_eq, ep]
            exact ⟨a1, a2, rfl⟩
          · rw [if_neg (by omega), if_neg (by omega)]
            refine H0 (fun w => ?_) m z_cf.rf
            unfold z_n2 at w
            omega
        · rw [if_neg q7]
          by_cases q6 : n 432 p = 6
          · rw [if_pos q6]
            obtain ⟨p1, p2, p3, p4⟩ := h.prt no (Or.inl (ek.trans q6))
            refine sp_st_parts ?_
            rw [p1, hs.1]
            by_cases qF : n 435 p = F
            · rw [if_pos (by omega), a3]
              refine sp_readParms_91 (F := F) h ⟨a1, a2⟩ q6 (by omega) (by omega) F.toNat 0 m (by omega) (by decide) z_cf.rf (by rw [hs.1]; omega) (fun _ => rfl) (fun k hk => by omega) (fun m' c e6 e9 e0 => H1 (Or.inr (Or.inr (Or.inr (Or.inr ⟨q6, by omega⟩)))) m' c ⟨by rw [e6]; exact hF, l3, fun k hk => ⟨by rw [e9]; exact (hs.2 k (by omega)).1, Or.inr ?_⟩⟩)
              have hmem : (g.2.1 p).getD k (-1) ∈ g.2.1 p := by
                rw [List.getD_eq_getElem?_getD, List.getElem?_eq_getElem (by omega)]
                exact List.getElem_mem _
              have hch := (h.2.2.2.2 p a1 a2 (Or.inl q6)).1.1.mem _ hmem
              have ep : z_pm g n p k = (g.2.1 p).getD k (-1) := (if_neg (by omega)).trans (if_pos q6)
              rw [ep]
              exact ⟨hch.1, hch.2, e0 k (by omega)⟩
            · rw [if_neg (by omega)]
              refine H0 (fun w => ?_) m z_cf.rf
              unfold z_n2 at w
              omega
          · rw [if_neg q6]
            refine H0 (fun w => ?_) m z_cf.rf
            unfold z_n2 at w
            omega
/-- what is asked of the parameters of one filter -/
def z_n3k (g : s_g) (n : w_M) (y q : Int) : Prop := q < 0 ∨ n 432 q = 0 ∨ (n 432 q = 7 ∧ (s_nk n y (s_wd 23) → z_ip2 g n q))
theorem sp_areRight (h : s_st g m n) (hw : s_kw m) (hx : z_pa g n x q) (h1 : z_n3k g n y q → Q 1 m) (h0 : ¬ z_n3k g n y q → Q 0 m) : xc_fi_areRight (d + 5) x (z_fl n y) m Q := by
  have bd := h.1
  unfold s_bd at bd
  apply xr_fi_areRight
  refine sp_st_kindOf ?_
  rcases hx with ⟨e, z⟩ | ⟨a1, a2, e⟩
  · rw [e, f_kind_v (by omega) (by omega), hw.1, if_neg (by decide), if_pos rfl]
    exact h1 (by unfold z_n3k; omega)
  · have no : s_no n q := Or.inr ⟨a1, a2⟩
    have kd := h.kd no
    have ek : s_kd n q = n 432 q := if_neg (by omega)
    rw [s_up_y a1, ek] at kd
    rw [e, kd]
    by_cases q7 : n 432 q = 7
    · rw [if_pos q7]
      refine sp_fi_wholeOr h hw (by decide) ⟨a1, a2⟩ q7 (by decide) ?_
      obtain ⟨v1, hv1⟩ : ∃ v, v = z_wh g n q 25 1 := ⟨_, rfl⟩
      obtain ⟨v2, hv2⟩ : ∃ v, v = z_wh g n q 26 1 := ⟨_, rfl⟩
      obtain ⟨v3, hv3⟩ : ∃ v, v = z_wh g n q 27 1 := ⟨_, rfl⟩
      obtain ⟨v4, hv4⟩ : ∃ v, v = z_wh g n q 28 8 := ⟨_, rfl⟩
      have eip : z_ip2 g n q ↔ (v1 = 1 ∨ (10 ≤ v1 ∧ v1 ≤ 15 ∧ 1 ≤ v2 ∧ v2 ≤ 200 ∧ v3 = 1 ∧ v4 = 8)) := by
        rw [hv1, hv2, hv3, hv4]; exact Iff.rfl
      rw [← hv1]
      by_cases qf : s_nk n y (s_wd 23)
      · rw [z_fl_1 qf, if_neg (by decide)]
        have yes : z_ip2 g n q → Q 1 m := fun z => h1 (Or.inr (Or.inr ⟨q7, fun _ => z⟩))
        have no2 : ¬ z_ip2 g n q → Q 0 m := fun z => h0 (fun w => by
          rcases w with w | w | w
          · omega
          · omega
          · exact z (w.2 qf))
        rw [eip] at yes no2
        by_cases c1 : max (-1) v1 = 1
        · rw [if_pos c1]
          exact yes (by omega)
        · rw [if_neg c1]
          refine sp_fi_wholeOr h hw (by decide) ⟨a1, a2⟩ q7 (by decide) ?_
          rw [← hv2]
          by_cases c2 : max (-1) v1 < 10
          · rw [if_pos c2]; exact no2 (by omega)
          · rw [if_neg c2]
            by_cases c3 : 15 < max (-1) v1
            · rw [if_pos c3]; exact no2 (by omega)
            · rw [if_neg c3]
              by_cases c4 : max (-1) v2 < 1
              · rw [if_pos c4]; exact no2 (by omega)
              · rw [if_neg c4]
                by_cases c5 : 200 < max (-1) v2
                · rw [if_pos c5]; exact no2 (by omega)
                · rw [if_neg c5]
                  refine sp_fi_wholeOr h hw (by decide) ⟨a1, a2⟩ q7 (by decide) ?_
                  rw [← hv3]
                  by_cases c6 : max (-1) v3 = 1
                  · rw [if_pos c6]
                    refine sp_fi_wholeOr h hw (by decide) ⟨a1, a2⟩ q7 (by decide) ?_
                    rw [← hv4]
                    by_cases c7 : max (-1) v4 = 8
                    · rw [if_pos c7]; exact yes (by omega)
                    · rw [if_neg c7]; exact no2 (by omega)
                  · rw [if_neg c6]; exact no2 (by omega)
      · rw [z_fl_0 qf, if_pos rfl]
        exact h1 (Or.inr (Or.inr ⟨q7, fun w => absurd w qf⟩))
    · rw [if_neg q7]
      by_cases q0 : n 432 q = 0
      · rw [if_pos q0]
        exact h1 (Or.inr (Or.inl q0))
      · rw [if_neg q0]
        exact h0 (fun w => by unfold z_n3k at w; omega)
theorem z_ns_mem (h : s_st g m n) (hn : s_no n f) (hy : y ∈ z_ns g n f) : 0 ≤ y ∧ y < n 428 15 := by
  unfold z_ns at hy
  split at hy
  · cases hy
  · rcases h.no hn with ⟨z1, z2⟩ | ⟨a1, a2, a3, a4, a5, a6, a7⟩
    · omega
    · split at hy
      · rw [List.mem_singleton.mp hy]; exact ⟨a1, a2⟩
      · split at hy
        · rename_i q6
          exact (h.2.2.2.2 f a1 a2 (Or.inl q6)).1.1.mem _ hy
        · cases hy
end FC
