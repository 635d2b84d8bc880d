/-! ===== the tree of pages, both sides ===== -/
def t_fl (m : w_M) (c a : Int) : w_M := if m 376 6 = 0 then w_up (w_up m 376 6 c) 376 7 a else m
/-- what the tree writes -/
def t_cf (m m' : w_M) : Prop := ∀ i j : Int, ¬ (i = 376 ∧ (j = 6 ∨ j = 7)) → ¬ (i = 399 ∧ j = 7) → ¬ (400 ≤ i ∧ i ≤ 402) → m' i j = m i j
def t_mf (n n' : w_M) : Prop := ∀ i j : Int, ¬ (i = 428 ∧ (j = 27 ∨ j = 28 ∨ j = 80 ∨ j = 82 ∨ j = 84)) → ¬ (468 ≤ i ∧ i ≤ 470) → n' i j = n i j
/-- both stand alike -/
def tr_T (g : s_g) (m n : w_M) : Prop := o_I g m n ∧ (∀ x, 0 ≤ x → x < 200 → m 401 x = n 469 x ∧ m 402 x = n 470 x) ∧ m 399 7 = n 428 84 ∧ (0 ≤ n 428 84 ∧ n 428 84 ≤ 60) ∧ (∀ k, 0 ≤ k → k < n 428 84 → m 400 k = n 468 k) ∧ n 428 27 = 0 ∧ m 376 6 = 0
/-- a dict's number -/
def t_dd (n : w_M) (x : Int) : Prop := o_u n x ∧ n 432 (n 455 x) = 7 ∧ n 457 x = 0
/-- the way up, all met -/
def t_cm (n : w_M) : Nat → Int → Prop
  | 0, x => x = 0
  | f + 1, x => x = 0 ∨ (t_dd n x ∧ n 470 x = 1 ∧ t_cm n f (n 469 x))
def t_ty (g : s_g) (n : w_M) (x k : Int) : Prop := s_nk n (o_en g n (n 455 x) 1) (s_wd k)
/-- a node that was met -/
def t_isN (g : s_g) (n : w_M) (x : Int) : Prop := n 470 x = 1 ∧ t_dd n x ∧ t_ty g n x 3
def t_kd (g : s_g) (n : w_M) (x : Int) : Prop := 0 ≤ o_en g n (n 455 x) 5 ∧ n 432 (o_en g n (n 455 x) 5) = 6 ∧ ∀ y ∈ g.2.1 (o_en g n (n 455 x) 5), o_dn n y ≠ 0
/-- a right node -/
def t_nd (g : s_g) (n : w_M) (x : Int) : Prop := t_ow g n (n 455 x) ∧ t_kd g n x ∧ (0 ≤ o_en g n (n 455 x) 6 ∧ n 432 (o_en g n (n 455 x) 6) = 2) ∧ (n 469 x = 0 ∨ t_isN g n (n 469 x)) ∧ t_cm n 20 x
/-- a right page -/
def t_pg (g : s_g) (n : w_M) (x : Int) : Prop := t_dd n x ∧ n 470 x = 1 ∧ t_ow g n (n 455 x) ∧ t_cm n 21 x ∧ t_isN g n (n 469 x) ∧ 0 ≤ t_at g n 8 21 x ∧ (0 ≤ t_ct g n (n 455 x) ∧ t_ct g n (n 455 x) ≤ 40000)
def tr_in (g : s_g) (n : w_M) (x : Int) : Prop := ∃ y ∈ g.2.1 (o_en g n (n 455 (n 469 x)) 5), o_dn n y = x
/-- what has been met in between; x itself is in no Kids yet -/
def t_F (g : s_g) (n n1 : w_M) (x : Int) : Prop :=
  (∀ y, 0 ≤ y → y < 200 → n 470 y = 1 → n1 470 y = 1 ∧ n1 469 y = n 469 y) ∧ (∀ k, 0 ≤ k → k < n 428 84 → n1 468 k = n 468 k) ∧ n 428 84 ≤ n1 428 84 ∧
  (∀ k, n 428 84 ≤ k → k < n1 428 84 → n 470 (n1 468 k) ≠ 1 ∧ t_pg g n1 (n1 468 k) ∧ (n1 468 k ≠ x → tr_in g n1 (n1 468 k))) ∧
  (∀ i j, n 428 84 ≤ i → i < j → j < n1 428 84 → n1 468 i ≠ n1 468 j) ∧
  (∀ y, 0 ≤ y → y < 200 → n 470 y ≠ 1 → t_isN g n1 y → t_nd g n1 y)
section OD
variable {d f f' : Nat} {g g' : s_g} {m m' m0 m1 m2 n n' n0 n1 n2 : w_M} {Q R : Int → w_M → Prop} {p k v x y z r b i l t s a by' : Int} {w : List Int}
theorem sp_tfl {c a : Int} (h : Q (-1) (t_fl m c a)) : xc_ps_fail (d + 1) 376 c a m Q := by
  apply xr_ps_fail (Or.inl rfl)
  unfold t_fl at h
  by_cases q : m 376 6 = 0
  · rw [if_pos q] at h ⊢; exact h
  · rw [if_neg q] at h ⊢; exact h
theorem t_fl_cf {c a : Int} : t_cf m (t_fl m c a) := fun i j q1 q2 q3 => by
  unfold t_fl
  by_cases q : m 376 6 = 0
  · rw [if_pos q, l_up (by omega), l_up (by omega)]
  · rw [if_neg q]
theorem t_fl_ne {c a : Int} (hc : c ≠ 0) : (t_fl m c a) 376 6 ≠ 0 := by
  unfold t_fl
  by_cases q : m 376 6 = 0
  · rw [if_pos q, w_up_nb (by decide), w_up_eq]; exact hc
  · rw [if_neg q]; exact q
theorem t_cf.rf : t_cf m m := fun _ _ _ _ _ => rfl
theorem t_cf.tr (h : t_cf m m1) (h2 : t_cf m1 m2) : t_cf m m2 := fun i j q1 q2 q3 => (h2 i j q1 q2 q3).trans (h i j q1 q2 q3)
theorem t_mf.rf : t_mf n n := fun _ _ _ _ => rfl
theorem t_mf.tr (h : t_mf n n1) (h2 : t_mf n1 n2) : t_mf n n2 := fun i j q1 q2 => (h2 i j q1 q2).trans (h i j q1 q2)
theorem e80.tm (h : e80 n n1) : t_mf n n1 := fun i j q1 q2 => h i j (by omega)
theorem t_mfl {c a : Int} : t_mf n (m_fl n c a) := fun i j q1 q2 => m_fl_o (by omega)
theorem t_mf.I (h : o_I g m n) (hc : t_cf m m1) (hm : t_mf n n1) : o_I g m1 n1 := h.fr (fun i j q1 q2 q3 => hc i j (by omega) (by omega) (by omega)) (hc _ _ (by omega) (by omega) (by omega)) (hc _ _ (by omega) (by omega) (by omega)) (fun i j q1 q2 => hm i j (by omega) (by omega)) (fun j q => hm _ _ (by omega) (by omega))
-- the pure pictures stand on
theorem t_mf.re (h : t_mf n n1) : o_re n1 y = o_re n y := o_re_fr (fun i j q1 q2 => h i j (by omega) (by omega)) (h _ _ (by omega) (by omega))
theorem t_mf.ln (h : t_mf n n1) : o_ln n1 y = o_ln n y := o_ln_fr (fun i j q1 q2 => h i j (by omega) (by omega)) (h _ _ (by omega) (by omega))
theorem t_mf.c (h : t_mf n n1) (hi : 429 ≤ i ∧ i ≤ 467) : n1 i y = n i y := h i y (by omega) (by omega)
theorem t_mf.en (h : t_mf n n1) : o_en g n1 b k = o_en g n b k := by
  unfold o_en
  rw [h.re, s_fd_fr (fun i j q1 q2 => h i j (by omega) (by omega))]
theorem t_mf.isd (h : t_mf n n1) : o_isd n1 y ↔ o_isd n y := by
  unfold o_isd
  rw [h.re, h.ln, h.c (by decide), h.c (by decide)]
theorem t_mf.dn (h : t_mf n n1) : o_dn n1 y = o_dn n y := by
  unfold o_dn
  have e := h.isd (y := y)
  by_cases q : 0 ≤ y ∧ n 432 y = 8 ∧ o_isd n y
  · rw [if_pos q, if_pos ⟨q.1, by rw [h.c (by decide)]; exact q.2.1, e.mpr q.2.2⟩, h.ln]
  · rw [if_neg q, if_neg (fun w => q ⟨w.1, by rw [← h.c (i := 432) (by decide)]; exact w.2.1, e.mp w.2.2⟩)]
theorem t_mf.no (h : t_mf n n1) : t_no n1 z ↔ t_no n z := by
  unfold t_no
  rw [h.c (by decide)]
theorem t_mf.nu (h : t_mf n n1) : t_nu n1 z ↔ t_nu n z := by
  unfold t_nu
  rw [h.c (by decide), h.c (by decide)]
theorem t_mf.bx (h : t_mf n n1) : t_bx g n1 z ↔ t_bx g n z := by
  unfold t_bx
  rw [h.c (by decide), h.c (by decide)]
  exact ⟨fun ⟨a, b, c⟩ => ⟨a, b, fun y hy => by have := c y hy; rw [h.re, h.nu] at this; exact this⟩, fun ⟨a, b, c⟩ => ⟨a, b, fun y hy => by rw [h.re, h.nu]; exact c y hy⟩⟩
theorem t_mf.ow (h : t_mf n n1) : t_ow g n1 b ↔ t_ow g n b := by
  unfold t_ow
  rw [h.en, h.en, h.en, h.no, h.no, h.no, h.bx, h.isd, s_fd_fr (fun i j q1 q2 => h i j (by omega) (by omega)), h.c (by decide), h.c (by decide)]
theorem t_mf.dd (h : t_mf n n1) : t_dd n1 x ↔ t_dd n x := by
  unfold t_dd o_u
  rw [h 428 60 (by omega) (by omega), h.c (i := 451) (by decide), h.c (i := 455) (by decide), h.c (i := 432) (by decide), h.c (i := 457) (by decide)]
theorem t_mf.ty (h : t_mf n n1) : t_ty g n1 x k ↔ t_ty g n x k := by
  unfold t_ty
  rw [h.en, h.c (by decide), s_nk_fr (fun i j q1 q2 => h i j (by omega) (by omega))]
theorem t_mf.kd (h : t_mf n n1) : t_kd g n1 x ↔ t_kd g n x := by
  unfold t_kd
  rw [h.c (i := 455) (by decide), h.en, h.c (by decide)]
  exact ⟨fun ⟨a, b, c⟩ => ⟨a, b, fun y hy => by have := c y hy; rw [h.dn] at this; exact this⟩, fun ⟨a, b, c⟩ => ⟨a, b, fun y hy => by rw [h.dn]; exact c y hy⟩⟩
theorem t_mf.sn (h : t_mf n n1) : t_sn n1 y = t_sn n y := by
  unfold t_sn t_st
  rw [h.ln, h.c (by decide)]
theorem t_mf.sm (h : t_mf n n1) : ∀ (L : List Int) (a : Int), t_sm n1 L a = t_sm n L a := by
  intro L
  induction L with
  | nil => intro a; rfl
  | cons y L ih =>
    intro a
    show (if t_sn n1 y = 0 then -1 else t_sm n1 L (a + n1 459 (t_sn n1 y) + (if L = [] then 0 else 1))) = (if t_sn n y = 0 then -1 else t_sm n L (a + n 459 (t_sn n y) + (if L = [] then 0 else 1)))
    rw [h.sn, h.c (by decide), ih]
theorem t_mf.ct (h : t_mf n n1) : t_ct g n1 b = t_ct g n b := by
  have e1 := h.no (z := o_en g n b 11)
  unfold t_ct
  rw [h.en, h.sm, h.c (by decide), s_fd_fr (fun i j q1 q2 => h i j (by omega) (by omega)), h.sn, h.c (by decide)]
  by_cases q : t_no n (o_en g n b 11)
  · rw [if_pos q, if_pos (e1.mpr q)]
  · rw [if_neg q, if_neg (fun w => q (e1.mp w))]
/-- what was met stands on -/
def t_mo (n n1 : w_M) : Prop := ∀ y, 0 ≤ y → y < 200 → n 470 y = 1 → n1 470 y = 1 ∧ n1 469 y = n 469 y
theorem t_dd.rg (h : t_dd n x) (hl : n 428 60 ≤ 200) : 0 ≤ x ∧ x < 200 ∧ x ≠ 0 := by
  have := h.1.1
  have := h.1.2.1
  omega
theorem t_cm.fr (h : t_mf n n1) (hm : t_mo n n1) (hl : n 428 60 ≤ 200) : ∀ (f : Nat) (x : Int), t_cm n f x → t_cm n1 f x := by
  intro f
  induction f with
  | zero => intro x hx; exact hx
  | succ f ih =>
    intro x hx
    rcases hx with hx | ⟨h1, h2, h3⟩
    · exact Or.inl hx
    · have r := h1.rg hl
      obtain ⟨e1, e2⟩ := hm x r.1 r.2.1 h2
      exact Or.inr ⟨h.dd.mpr h1, e1, by rw [e2]; exact ih _ h3⟩
theorem t_cm.more : ∀ (f : Nat) (x : Int), t_cm n f x → t_cm n (f + 1) x := by
  intro f
  induction f with
  | zero => intro x hx; exact Or.inl hx
  | succ f ih =>
    intro x hx
    rcases hx with hx | ⟨h1, h2, h3⟩
    · exact Or.inl hx
    · exact Or.inr ⟨h1, h2, ih _ h3⟩
theorem t_cm.le {f f' : Nat} (h : t_cm n f x) (hf : f ≤ f') : t_cm n f' x := by
  obtain ⟨k, hk⟩ := Nat.le.dest hf
  rw [← hk]
  clear hk
  induction k with
  | zero => exact h
  | succ k ih => exact ih.more
theorem t_cm.ch : ∀ (f : Nat) (x : Int), t_cm n f x → t_ch n f x := by
  intro f
  induction f with
  | zero => intro x hx; exact hx
  | succ f ih =>
    intro x hx
    rcases hx with hx | ⟨h1, h2, h3⟩
    · exact Or.inl hx
    · exact Or.inr ⟨⟨h1.1, h1.2.1⟩, ih _ h3⟩
theorem t_at.fr (h : t_mf n n1) (hm : t_mo n n1) (hl : n 428 60 ≤ 200) : ∀ (f : Nat) (x : Int), t_cm n f x → t_at g n1 k f x = t_at g n k f x := by
  intro f
  induction f with
  | zero => intro x _; rfl
  | succ f ih =>
    intro x hx
    rcases hx with hx | ⟨h1, h2, h3⟩
    · rw [hx, t_at_0, t_at_0]
    · have r := h1.rg hl
      obtain ⟨e1, e2⟩ := hm x r.1 r.2.1 h2
      have e55 : n1 455 x = n 455 x := h.c (by decide)
      by_cases q : t_no n (o_en g n (n 455 x) k)
      · rw [t_at_y r.2.2 q, t_at_y r.2.2 (by rw [e55, h.en, h.no]; exact q), e2, ih _ h3]
      · rw [t_at_n r.2.2 q, t_at_n r.2.2 (by rw [e55, h.en, h.no]; exact q), e55, s_fd_fr (fun i j q1 q2 => h i j (by omega) (by omega))]
theorem t_isN.fr (h : t_mf n n1) (hm : t_mo n n1) (hl : n 428 60 ≤ 200) (hx : t_isN g n x) : t_isN g n1 x := by
  obtain ⟨a1, a2, a3⟩ := hx
  have r := a2.rg hl
  exact ⟨(hm x r.1 r.2.1 a1).1, h.dd.mpr a2, h.ty.mpr a3⟩
theorem t_nd.fr (h : t_mf n n1) (hm : t_mo n n1) (hl : n 428 60 ≤ 200) (hN : t_isN g n x) (hx : t_nd g n x) : t_nd g n1 x := by
  obtain ⟨b1, b2, b3⟩ := hN
  have r := b2.rg hl
  obtain ⟨e1, e2⟩ := hm x r.1 r.2.1 b1
  obtain ⟨a1, a2, a3, a4, a5⟩ := hx
  have e55 : n1 455 x = n 455 x := h.c (by decide)
  unfold t_nd
  rw [e55, e2, h.ow, h.kd, h.en, h.c (by decide)]
  exact ⟨a1, a2, a3, a4.imp id (fun z => z.fr h hm hl), t_cm.fr h hm hl 20 x a5⟩
theorem t_pg.fr (h : t_mf n n1) (hm : t_mo n n1) (hl : n 428 60 ≤ 200) (hx : t_pg g n x) : t_pg g n1 x := by
  obtain ⟨a1, a2, a3, a4, a5, a6, a7⟩ := hx
  have r := a1.rg hl
  obtain ⟨e1, e2⟩ := hm x r.1 r.2.1 a2
  have e55 : n1 455 x = n 455 x := h.c (by decide)
  unfold t_pg
  rw [e55, e2, h.ow, h.dd, h.ct, t_at.fr h hm hl 21 x a4]
  exact ⟨a1, e1, a3, t_cm.fr h hm hl 21 x a4, a5.fr h hm hl, a6, a7⟩
theorem tr_in.fr (h : t_mf n n1) (e2 : n1 469 x = n 469 x) (hx : tr_in g n x) : tr_in g n1 x := by
  obtain ⟨y, h1, h2⟩ := hx
  refine ⟨y, ?_, by rw [h.dn]; exact h2⟩
  rw [e2, h.c (by decide), h.en]
  exact h1
theorem t_mo.rf : t_mo n n := fun _ _ _ h => ⟨h, rfl⟩
theorem t_F.tr (h : t_mf n n1) (h2 : t_mf n1 n2) (hl : n 428 60 ≤ 200) (hk0 : 0 ≤ n 428 84) (a : t_F g n n1 x) (b : t_F g n1 n2 y) (hin : ∀ k, n 428 84 ≤ k → k < n1 428 84 → n1 468 k = x → x ≠ z → tr_in g n2 x) (hin2 : ∀ k, n1 428 84 ≤ k → k < n2 428 84 → n2 468 k = y → y ≠ z → tr_in g n2 y) : t_F g n n2 z := by
  obtain ⟨a1, a2, a3, a4, a5, a6⟩ := a
  obtain ⟨b1, b2, b3, b4, b5, b6⟩ := b
  have hl1 : n1 428 60 ≤ 200 := by rw [h _ _ (by omega) (by omega)]; exact hl
  have pr : ∀ k, n 428 84 ≤ k → k < n1 428 84 → 0 ≤ n1 468 k ∧ n1 468 k < 200 ∧ n1 470 (n1 468 k) = 1 := fun k q1 q2 => by
    have := (a4 k q1 q2).2.1
    have r := this.1.rg hl1
    exact ⟨r.1, r.2.1, this.2.1⟩
  refine ⟨fun y y0 y1 y2 => ?_, fun k k0 k1 => ?_, by omega, fun k q1 q2 => ?_, fun i j q1 q2 q3 => ?_, fun y y0 y1 y2 y3 => ?_⟩
  · obtain ⟨c1, c2⟩ := a1 y y0 y1 y2
    obtain ⟨c3, c4⟩ := b1 y y0 y1 c1
    exact ⟨c3, c4.trans c2⟩
  · rw [b2 k k0 (by omega), a2 k k0 k1]
  · by_cases q : k < n1 428 84
    · obtain ⟨c1, c2, c3⟩ := a4 k q1 q
      have pk := pr k q1 q
      rw [b2 k (by omega) q]
      refine ⟨c1, c2.fr h2 b1 hl1, fun w => ?_⟩
      by_cases qx : n1 468 k = x
      · rw [qx] at w ⊢
        exact hin k q1 q qx w
      · exact (c3 qx).fr h2 (b1 _ pk.1 pk.2.1 pk.2.2).2
    · obtain ⟨c1, c2, c3⟩ := b4 k (by omega) q2
      have r := c2.1.rg (by rw [h2 _ _ (by omega) (by omega)]; exact hl1)
      refine ⟨fun w => c1 (a1 _ r.1 r.2.1 w).1, c2, fun w => ?_⟩
      by_cases qy : n2 468 k = y
      · rw [qy] at w ⊢
        exact hin2 k (by omega) q2 qy w
      · exact c3 qy
  · by_cases q : j < n1 428 84
    · rw [b2 i (by omega) (by omega), b2 j (by omega) q]
      exact a5 i j q1 q2 q
    · by_cases q' : i < n1 428 84
      · have pk := pr i q1 q'
        rw [b2 i (by omega) q']
        intro e
        have := (b4 j (by omega) q3).1
        rw [← e] at this
        exact this pk.2.2
      · exact b5 i j (by omega) q2 q3
  · by_cases q : n1 470 y = 1
    · have N1 : t_isN g n1 y := ⟨q, h2.dd.mp y3.2.1, h2.ty.mp y3.2.2⟩
      exact (a6 y y0 y1 y2 N1).fr h2 b1 hl1 N1
    · exact b6 y y0 y1 q y3
end OD
