/-! ===== the tree's pictures stand on where less stands still ===== -/
def t_mw (n n' : w_M) : Prop := ∀ i j : Int, ¬ (i = 428 ∧ j ≠ 15 ∧ j ≠ 17 ∧ j ≠ 34 ∧ j ≠ 60 ∧ j ≠ 67) → ¬ (i < 428 ∨ (429 ≤ i ∧ i ≤ 431) ∨ 460 ≤ i) → n' i j = n i j
section MW
variable {d f f' : Nat} {g g' : s_g} {m m' m0 m1 m2 n n' n0 n1 n2 : w_M} {Q R : Int → w_M → Prop} {p k v x y z r b i l t s a by' : Int} {w : List Int}
theorem t_mw.re (h : t_mw n n1) : o_re n1 y = o_re n y := o_re_fr (fun i j q1 q2 => h i j (by omega) (by omega)) (h _ _ (by omega) (by omega))
theorem t_mw.ln (h : t_mw n n1) : o_ln n1 y = o_ln n y := o_ln_fr (fun i j q1 q2 => h i j (by omega) (by omega)) (h _ _ (by omega) (by omega))
theorem t_mw.c (h : t_mw n n1) (hi : 432 ≤ i ∧ i ≤ 459) : n1 i y = n i y := h i y (by omega) (by omega)
theorem t_mw.en (h : t_mw n n1) : o_en g n1 b k = o_en g n b k := by
  unfold o_en
  rw [h.re, s_fd_fr (fun i j q1 q2 => h i j (by omega) (by omega))]
theorem t_mw.isd (h : t_mw n n1) : o_isd n1 y ↔ o_isd n y := by
  unfold o_isd
  rw [h.re, h.ln, h.c (by decide), h.c (by decide)]
theorem t_mw.dn (h : t_mw n n1) : o_dn n1 y = o_dn n y := by
  unfold o_dn
  have e := h.isd (y := y)
  by_cases q : 0 ≤ y ∧ n 432 y = 8 ∧ o_isd n y
  · rw [if_pos q, if_pos ⟨q.1, by rw [h.c (by decide)]; exact q.2.1, e.mpr q.2.2⟩, h.ln]
  · rw [if_neg q, if_neg (fun w => q ⟨w.1, by rw [← h.c (i := 432) (by decide)]; exact w.2.1, e.mp w.2.2⟩)]
theorem t_mw.no (h : t_mw n n1) : t_no n1 z ↔ t_no n z := by
  unfold t_no
  rw [h.c (by decide)]
theorem t_mw.nu (h : t_mw n n1) : t_nu n1 z ↔ t_nu n z := by
  unfold t_nu
  rw [h.c (by decide), h.c (by decide)]
theorem t_mw.bx (h : t_mw n n1) : t_bx g n1 z ↔ t_bx g n z := by
  unfold t_bx
  rw [h.c (by decide), h.c (by decide)]
  exact ⟨fun ⟨a, b, c⟩ => ⟨a, b, fun y hy => by have := c y hy; rw [h.re, h.nu] at this; exact this⟩, fun ⟨a, b, c⟩ => ⟨a, b, fun y hy => by rw [h.re, h.nu]; exact c y hy⟩⟩
theorem t_mw.ow (h : t_mw n n1) : t_ow g n1 b ↔ t_ow g n b := by
  unfold t_ow
  rw [h.en, h.en, h.en, h.no, h.no, h.no, h.bx, h.isd, s_fd_fr (fun i j q1 q2 => h i j (by omega) (by omega)), h.c (by decide), h.c (by decide)]
theorem t_mw.dd (h : t_mw n n1) : t_dd n1 x ↔ t_dd n x := by
  unfold t_dd o_u
  rw [h 428 60 (by omega) (by omega), h.c (i := 451) (by decide), h.c (i := 455) (by decide), h.c (i := 432) (by decide), h.c (i := 457) (by decide)]
theorem t_mw.ty (h : t_mw n n1) : t_ty g n1 x k ↔ t_ty g n x k := by
  unfold t_ty
  rw [h.en, h.c (by decide), s_nk_fr (fun i j q1 q2 => h i j (by omega) (by omega))]
theorem t_mw.kd (h : t_mw n n1) : t_kd g n1 x ↔ t_kd g n x := by
  unfold t_kd
  rw [h.c (i := 455) (by decide), h.en, h.c (by decide)]
  exact ⟨fun ⟨a, b, c⟩ => ⟨a, b, fun y hy => by have := c y hy; rw [h.dn] at this; exact this⟩, fun ⟨a, b, c⟩ => ⟨a, b, fun y hy => by rw [h.dn]; exact c y hy⟩⟩
theorem t_mw.sn (h : t_mw n n1) : t_sn n1 y = t_sn n y := by
  unfold t_sn t_st
  rw [h.ln, h.c (by decide)]
theorem t_mw.sm (h : t_mw n n1) : ∀ (L : List Int) (a : Int), t_sm n1 L a = t_sm n L a := by
  intro L
  induction L with
  | nil => intro a; rfl
  | cons y L ih =>
    intro a
    show (if t_sn n1 y = 0 then -1 else t_sm n1 L (a + n1 459 (t_sn n1 y) + (if L = [] then 0 else 1))) = (if t_sn n y = 0 then -1 else t_sm n L (a + n 459 (t_sn n y) + (if L = [] then 0 else 1)))
    rw [h.sn, h.c (by decide), ih]
theorem t_mw.ct (h : t_mw n n1) : t_ct g n1 b = t_ct g n b := by
  have e1 := h.no (z := o_en g n b 11)
  unfold t_ct
  rw [h.en, h.sm, h.c (by decide), s_fd_fr (fun i j q1 q2 => h i j (by omega) (by omega)), h.sn, h.c (by decide)]
  by_cases q : t_no n (o_en g n b 11)
  · rw [if_pos q, if_pos (e1.mpr q)]
  · rw [if_neg q, if_neg (fun w => q (e1.mp w))]
theorem t_cm.fw (h : t_mw n n1) (hm : t_mo n n1) (hl : n 428 60 ≤ 200) : ∀ (f : Nat) (x : Int), t_cm n f x → t_cm n1 f x := by
  intro f
  induction f with
  | zero => intro x hx; exact hx
  | succ f ih =>
    intro x hx
    rcases hx with hx | ⟨h1, h2, h3⟩
    · exact Or.inl hx
    · have r := h1.rg hl
      obtain ⟨e1, e2⟩ := hm x r.1 r.2.1 h2
      exact Or.inr ⟨h.dd.mpr h1, e1, by rw [e2]; exact ih _ h3⟩
theorem t_at.fw (h : t_mw n n1) (hm : t_mo n n1) (hl : n 428 60 ≤ 200) : ∀ (f : Nat) (x : Int), t_cm n f x → t_at g n1 k f x = t_at g n k f x := by
  intro f
  induction f with
  | zero => intro x _; rfl
  | succ f ih =>
    intro x hx
    rcases hx with hx | ⟨h1, h2, h3⟩
    · rw [hx, t_at_0, t_at_0]
    · have r := h1.rg hl
      obtain ⟨e1, e2⟩ := hm x r.1 r.2.1 h2
      have e55 : n1 455 x = n 455 x := h.c (by decide)
      by_cases q : t_no n (o_en g n (n 455 x) k)
      · rw [t_at_y r.2.2 q, t_at_y r.2.2 (by rw [e55, h.en, h.no]; exact q), e2, ih _ h3]
      · rw [t_at_n r.2.2 q, t_at_n r.2.2 (by rw [e55, h.en, h.no]; exact q), e55, s_fd_fr (fun i j q1 q2 => h i j (by omega) (by omega))]
theorem t_isN.fw (h : t_mw n n1) (hm : t_mo n n1) (hl : n 428 60 ≤ 200) (hx : t_isN g n x) : t_isN g n1 x := by
  obtain ⟨a1, a2, a3⟩ := hx
  have r := a2.rg hl
  exact ⟨(hm x r.1 r.2.1 a1).1, h.dd.mpr a2, h.ty.mpr a3⟩
theorem t_nd.fw (h : t_mw n n1) (hm : t_mo n n1) (hl : n 428 60 ≤ 200) (hN : t_isN g n x) (hx : t_nd g n x) : t_nd g n1 x := by
  obtain ⟨b1, b2, b3⟩ := hN
  have r := b2.rg hl
  obtain ⟨e1, e2⟩ := hm x r.1 r.2.1 b1
  obtain ⟨a1, a2, a3, a4, a5⟩ := hx
  have e55 : n1 455 x = n 455 x := h.c (by decide)
  unfold t_nd
  rw [e55, e2, h.ow, h.kd, h.en, h.c (by decide)]
  exact ⟨a1, a2, a3, a4.imp id (fun z => z.fw h hm hl), t_cm.fw h hm hl 20 x a5⟩
theorem t_pg.fw (h : t_mw n n1) (hm : t_mo n n1) (hl : n 428 60 ≤ 200) (hx : t_pg g n x) : t_pg g n1 x := by
  obtain ⟨a1, a2, a3, a4, a5, a6, a7⟩ := hx
  have r := a1.rg hl
  obtain ⟨e1, e2⟩ := hm x r.1 r.2.1 a2
  have e55 : n1 455 x = n 455 x := h.c (by decide)
  unfold t_pg
  rw [e55, e2, h.ow, h.dd, h.ct, t_at.fw h hm hl 21 x a4]
  exact ⟨a1, e1, a3, t_cm.fw h hm hl 21 x a4, a5.fw h hm hl, a6, a7⟩
theorem tr_in.fw (h : t_mw n n1) (e2 : n1 469 x = n 469 x) (hx : tr_in g n x) : tr_in g n1 x := by
  obtain ⟨y, h1, h2⟩ := hx
  refine ⟨y, ?_, by rw [h.dn]; exact h2⟩
  rw [e2, h.c (by decide), h.en]
  exact h1
end MW
