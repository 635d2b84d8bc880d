/-! ===== the two stores side by side: nodes of the reference, nodes of the class ===== -/
/-- what goes with them: node to node, the parts of arrays and dicts, whose part a node is, where the parts are an array's or dict's own, how deep, where it ends -/
abbrev s_g : Type := (Int → Int) × (Int → List Int) × (Int → Int) × (Int → Int) × (Int → Int) × (Int → Int)
/-- a link: none, or node to node -/
def s_lk (f : Int → Int) (N x y : Int) : Prop := (x = -1 ∧ y = -1) ∨ (0 ≤ y ∧ y < N ∧ x = f y)
/-- behind a node: none in the reference, or node to node -/
def s_l2 (f : Int → Int) (N x y : Int) : Prop := y = -1 ∨ (0 ≤ y ∧ y < N ∧ x = f y)
/-- the same bytes: of the class from x on, of the reference from y on -/
def s_tx (m n : w_M) (x y s : Int) : Prop := 0 ≤ s ∧ 0 ≤ x ∧ x + s ≤ m 359 7 ∧ 0 ≤ y ∧ (y + s ≤ n 428 17 ∨ (140000 ≤ y ∧ y + s ≤ 150000)) ∧ ∀ i, 0 ≤ i → i < s → m 365 (x + i) = n 440 (y + i) ∧ -128 ≤ n 440 (y + i) ∧ n 440 (y + i) < 128
/-- the name of an entry -/
def s_ky (m n : w_M) (k y s : Int) : Prop := (k = -1 ∧ s = 0) ∨ (0 ≤ k ∧ k < m 359 6 ∧ m 360 k = 4 ∧ m 362 k = s ∧ s_tx m n (m 361 k) y s)
def s_nd (g : s_g) (m n : w_M) (b : Int) : Prop :=
  41 ≤ g.1 b ∧ g.1 b < m 359 6 ∧ m 360 (g.1 b) = n 432 b ∧ 0 ≤ n 432 b ∧ n 432 b ≤ 8 ∧
  ((1 ≤ n 432 b ∧ n 432 b ≤ 3 ∨ n 432 b = 8) → m 361 (g.1 b) = n 433 b) ∧
  (n 432 b = 8 → m 362 (g.1 b) = n 434 b ∧ 1 ≤ n 433 b ∧ n 433 b < 200 ∧ 0 ≤ n 434 b ∧ n 434 b ≤ 65535) ∧
  ((n 432 b = 4 ∨ n 432 b = 5) → m 362 (g.1 b) = n 435 b ∧ s_tx m n (m 361 (g.1 b)) (n 436 b) (n 435 b)) ∧
  ((n 432 b = 6 ∨ n 432 b = 7) → m 362 (g.1 b) = n 435 b ∧ s_lk g.1 (n 428 15) (m 361 (g.1 b)) (n 436 b)) ∧
  s_l2 g.1 (n 428 15) (m 363 (g.1 b)) (n 437 b) ∧ s_ky m n (m 364 (g.1 b)) (n 438 b) (n 439 b)
/-- a row of parts, from x on to its end -/
def s_ch (n : w_M) (N : Int) : Int → List Int → Prop
  | x, [] => x = -1
  | x, y :: l => x = y ∧ 0 ≤ y ∧ y < N ∧ s_ch n N (n 437 y) l
/-- the same name -/
def s_ke (n : w_M) (y z : Int) : Prop := n 439 y = n 439 z ∧ ∀ i, 0 ≤ i → i < n 439 y → n 440 (n 438 y + i) = n 440 (n 438 z + i)
def s_ls (g : s_g) (m n : w_M) (b : Int) : Prop :=
  s_ch n (n 428 15) (n 436 b) (g.2.1 b) ∧ n 435 b = (g.2.1 b).length ∧ (∀ y ∈ g.2.1 b, g.2.2.1 y = g.2.2.2.1 b ∧ (g.2.2.2.2.1 y < g.2.2.2.2.1 b ∧ 0 ≤ g.2.2.2.2.1 y)) ∧
  (n 432 b = 7 → (∀ y ∈ g.2.1 b, 0 ≤ m 364 (g.1 y)) ∧ (g.2.1 b).Pairwise (fun y z => ¬ s_ke n y z))
def s_bd (m n : w_M) : Prop := 0 ≤ n 428 15 ∧ n 428 15 ≤ 40000 ∧ 41 ≤ m 359 6 ∧ m 359 6 ≤ 16564 ∧ 8512 ≤ m 359 7 ∧ m 359 7 ≤ 108612 ∧ 0 ≤ n 428 17 ∧ n 428 17 ≤ 140000
/-- both stores -/
def s_st (g : s_g) (m n : w_M) : Prop :=
  s_bd m n ∧
  (∀ b, 0 ≤ b → b < n 428 15 → s_nd g m n b) ∧
  (∀ b c, 0 ≤ b → b < n 428 15 → 0 ≤ c → c < n 428 15 → g.1 b = g.1 c → b = c) ∧
  (∀ b c, 0 ≤ b → b < n 428 15 → 0 ≤ c → c < n 428 15 → m 364 (g.1 b) ≠ g.1 c) ∧
  (∀ b, 0 ≤ b → b < n 428 15 → (n 432 b = 6 ∨ n 432 b = 7) → s_ls g m n b ∧ 0 ≤ g.2.2.2.1 b ∧ g.2.2.2.1 b < n 428 15)
/-- what of m' is as in m: nodes, bytes -/
def s_cf (m m' : w_M) : Prop := m 359 6 ≤ m' 359 6 ∧ m 359 7 ≤ m' 359 7 ∧ (∀ a b, 360 ≤ a → a ≤ 364 → 0 ≤ b → b < m 359 6 → m' a b = m a b) ∧ ∀ b, b < m 359 7 → m' 365 b = m 365 b
def s_mf (n n' : w_M) : Prop := n 428 15 ≤ n' 428 15 ∧ n 428 17 ≤ n' 428 17 ∧ (∀ a b, 432 ≤ a → a ≤ 439 → 0 ≤ b → b < n 428 15 → n' a b = n a b) ∧ ∀ b, (b < n 428 17 ∨ 140000 ≤ b) → n' 440 b = n 440 b
/-- g' is g on the nodes below N -/
def s_ex (g g' : s_g) (N : Int) : Prop := ∀ b, 0 ≤ b → b < N → g'.1 b = g.1 b ∧ g'.2.1 b = g.2.1 b ∧ g'.2.2.1 b = g.2.2.1 b ∧ g'.2.2.2.1 b = g.2.2.2.1 b ∧ g'.2.2.2.2.1 b = g.2.2.2.2.1 b ∧ g'.2.2.2.2.2 b = g.2.2.2.2.2 b
section SA
variable {g g' g2 : s_g} {m m' m2 n n' n2 : w_M} {N b x y s k : Int} {f f' : Int → Int}
theorem s_cf.rf : s_cf m m := ⟨Int.le_refl _, Int.le_refl _, fun _ _ _ _ _ _ => rfl, fun _ _ => rfl⟩
theorem s_mf.rf : s_mf n n := ⟨Int.le_refl _, Int.le_refl _, fun _ _ _ _ _ _ => rfl, fun _ _ => rfl⟩
theorem s_cf.tr (h : s_cf m m') (h2 : s_cf m' m2) : s_cf m m2 := by
  obtain ⟨a1, a2, a3, a4⟩ := h
  obtain ⟨b1, b2, b3, b4⟩ := h2
  exact ⟨by omega, by omega, fun a b q1 q2 q3 q4 => (b3 a b q1 q2 q3 (by omega)).trans (a3 a b q1 q2 q3 q4), fun b q => (b4 b (by omega)).trans (a4 b q)⟩
theorem s_mf.tr (h : s_mf n n') (h2 : s_mf n' n2) : s_mf n n2 := by
  obtain ⟨a1, a2, a3, a4⟩ := h
  obtain ⟨b1, b2, b3, b4⟩ := h2
  exact ⟨by omega, by omega, fun a b q1 q2 q3 q4 => (b3 a b q1 q2 q3 (by omega)).trans (a3 a b q1 q2 q3 q4), fun b q => (b4 b (by omega)).trans (a4 b q)⟩
theorem s_ex.rf : s_ex g g N := fun _ _ _ => ⟨rfl, rfl, rfl, rfl, rfl, rfl⟩
theorem s_ex.tr {N2 : Int} (h : s_ex g g' N) (h2 : s_ex g' g2 N2) (hN : N ≤ N2) : s_ex g g2 N := by
  intro b q1 q2
  obtain ⟨a1, a2, a3, a4, a5, a6⟩ := h b q1 q2
  obtain ⟨b1, b2, b3, b4, b5, b6⟩ := h2 b q1 (by omega)
  exact ⟨b1.trans a1, b2.trans a2, b3.trans a3, b4.trans a4, b5.trans a5, b6.trans a6⟩
theorem s_tx.fr (h : s_tx m n x y s) (hc : s_cf m m') (hm : s_mf n n') : s_tx m' n' x y s := by
  obtain ⟨a1, a2, a3, a4, a5, a6⟩ := h
  obtain ⟨b1, b2, b3, b4⟩ := hc
  obtain ⟨c1, c2, c3, c4⟩ := hm
  refine ⟨a1, a2, by omega, a4, by omega, fun i i0 i1 => ?_⟩
  rw [b4 _ (by omega), c4 _ (by omega)]
  exact a6 i i0 i1
theorem s_ky.fr (h : s_ky m n k y s) (hc : s_cf m m') (hm : s_mf n n') : s_ky m' n' k y s := by
  rcases h with h | ⟨a1, a2, a3, a4, a5⟩
  · exact Or.inl h
  · have e := fun a q1 q2 => hc.2.2.1 a k q1 q2 a1 a2
    refine Or.inr ⟨a1, by have := hc.1; omega, ?_, ?_, ?_⟩
    · rw [e 360 (by decide) (by decide)]; exact a3
    · rw [e 362 (by decide) (by decide)]; exact a4
    · rw [e 361 (by decide) (by decide)]; exact a5.fr hc hm
theorem s_lk.fr (h : s_lk f N x y) {N' : Int} (hN : N ≤ N') (hf : ∀ b, 0 ≤ b → b < N → f' b = f b) : s_lk f' N' x y := by
  rcases h with h | ⟨a1, a2, a3⟩
  · exact Or.inl h
  · exact Or.inr ⟨a1, by omega, by rw [hf y a1 a2]; exact a3⟩
theorem s_l2.fr (h : s_l2 f N x y) {N' : Int} (hN : N ≤ N') (hf : ∀ b, 0 ≤ b → b < N → f' b = f b) : s_l2 f' N' x y := by
  rcases h with h | ⟨a1, a2, a3⟩
  · exact Or.inl h
  · exact Or.inr ⟨a1, by omega, by rw [hf y a1 a2]; exact a3⟩
theorem s_lk.l2 (h : s_lk f N x y) : s_l2 f N x y := by
  rcases h with h | h
  · exact Or.inl h.2
  · exact Or.inr h
theorem s_nd.fr (h : s_nd g m n b) (hb : 0 ≤ b ∧ b < n 428 15) (hc : s_cf m m') (hm : s_mf n n') (hg : s_ex g g' (n 428 15)) : s_nd g' m' n' b := by
  obtain ⟨a1, a2, a3, a4, a5, a6, a7, a8, a9, a10, a11⟩ := h
  have ef : g'.1 b = g.1 b := (hg b hb.1 hb.2).1
  have ec := fun a q1 q2 => hc.2.2.1 a (g.1 b) q1 q2 (by omega) a2
  have em := fun a q1 q2 => hm.2.2.1 a b q1 q2 hb.1 hb.2
  have ef2 : ∀ c, 0 ≤ c → c < n 428 15 → g'.1 c = g.1 c := fun c q1 q2 => (hg c q1 q2).1
  unfold s_nd
  rw [ef, ec 360 (by decide) (by decide), ec 361 (by decide) (by decide), ec 362 (by decide) (by decide), ec 363 (by decide) (by decide), ec 364 (by decide) (by decide), em 432 (by decide) (by decide), em 433 (by decide) (by decide), em 434 (by decide) (by decide), em 435 (by decide) (by decide), em 436 (by decide) (by decide), em 437 (by decide) (by decide), em 438 (by decide) (by decide), em 439 (by decide) (by decide)]
  exact ⟨a1, by have := hc.1; omega, a3, a4, a5, a6, a7, fun q => ⟨(a8 q).1, (a8 q).2.fr hc hm⟩, fun q => ⟨(a9 q).1, (a9 q).2.fr hm.1 ef2⟩, a10.fr hm.1 ef2, a11.fr hc hm⟩
theorem s_ch.fr {l : List Int} {N' : Int} (hN : N ≤ N') : ∀ {x : Int}, s_ch n N x l → (∀ y ∈ l, n' 437 y = n 437 y) → s_ch n' N' x l := by
  induction l with
  | nil => intro x h _; exact h
  | cons y l ih =>
    intro x h hq
    obtain ⟨a1, a2, a3, a4⟩ := h
    exact ⟨a1, a2, by omega, by rw [hq y (List.mem_cons_self ..)]; exact ih a4 (fun z hz => hq z (List.mem_cons_of_mem _ hz))⟩
theorem s_ch.mem {l : List Int} : ∀ {x : Int}, s_ch n N x l → ∀ y ∈ l, 0 ≤ y ∧ y < N := by
  induction l with
  | nil => intro x h y hy; cases hy
  | cons z l ih =>
    intro x h y hy
    obtain ⟨a1, a2, a3, a4⟩ := h
    rcases List.mem_cons.mp hy with e | hy
    · subst e; exact ⟨a2, a3⟩
    · exact ih a4 y hy
/-- nothing that is there has changed -/
theorem s_ke.fr (hm : s_mf n n') (h15 : 0 ≤ x ∧ x < n 428 15 ∧ 0 ≤ y ∧ y < n 428 15) (hx : s_ky m n k (n 438 x) (n 439 x)) {k2 : Int} (hy : s_ky m n k2 (n 438 y) (n 439 y)) (h : s_ke n' x y) : s_ke n x y := by
  obtain ⟨p1, p2, p3, p4⟩ := h15
  have ex := fun a q1 q2 => hm.2.2.1 a x q1 q2 p1 p2
  have ey := fun a q1 q2 => hm.2.2.1 a y q1 q2 p3 p4
  obtain ⟨h1, h2⟩ := h
  rw [ex 439 (by decide) (by decide)] at h1 h2
  rw [ey 439 (by decide) (by decide)] at h1
  rw [ex 438 (by decide) (by decide), ey 438 (by decide) (by decide)] at h2
  refine ⟨h1, fun i i0 i1 => ?_⟩
  have := h2 i i0 i1
  rcases hx with hx | ⟨a1, a2, a3, a4, b1, b2, b3, b4, b5, b6⟩
  · omega
  · rcases hy with hy | ⟨c1, c2, c3, c4, d1, d2, d3, d4, d5, d6⟩
    · omega
    · have z1 := hm.2.2.2 (n 438 x + i) (by omega)
      have z2 := hm.2.2.2 (n 438 y + i) (by omega)
      rw [z1, z2] at this
      exact this
theorem s_ls.fr (h : s_ls g m n b) (hb : 0 ≤ b ∧ b < n 428 15) (hn : ∀ c, 0 ≤ c → c < n 428 15 → s_nd g m n c) (hc : s_cf m m') (hm : s_mf n n') (hg : s_ex g g' (n 428 15)) : s_ls g' m' n' b := by
  obtain ⟨a1, a2, a3, a4⟩ := h
  have mem := a1.mem
  obtain ⟨e1, e2, e3, e4, e5, e6⟩ := hg b hb.1 hb.2
  have em := fun a q1 q2 => hm.2.2.1 a b q1 q2 hb.1 hb.2
  unfold s_ls
  rw [e2, e4, e5, em 432 (by decide) (by decide), em 435 (by decide) (by decide), em 436 (by decide) (by decide)]
  refine ⟨a1.fr hm.1 (fun y hy => hm.2.2.1 437 y (by decide) (by decide) (mem y hy).1 (mem y hy).2), a2, fun y hy => ?_, fun q => ⟨fun y hy => ?_, ?_⟩⟩
  · obtain ⟨f1, f2, f3, f4, f5, f6⟩ := hg y (mem y hy).1 (mem y hy).2
    rw [f3, f5]
    exact a3 y hy
  · obtain ⟨f1, f2, f3, f4, f5, f6⟩ := hg y (mem y hy).1 (mem y hy).2
    have y2 := hn y (mem y hy).1 (mem y hy).2
    rw [f1, hc.2.2.1 364 _ (by decide) (by decide) (by have := y2.1; omega) y2.2.1]
    exact (a4 q).1 y hy
  · refine List.Pairwise.imp_of_mem (fun {y z} hy hz q2 q3 => q2 ?_) (a4 q).2
    have y2 := hn y (mem y hy).1 (mem y hy).2
    have z2 := hn z (mem z hz).1 (mem z hz).2
    exact s_ke.fr hm ⟨(mem y hy).1, (mem y hy).2, (mem z hz).1, (mem z hz).2⟩ y2.2.2.2.2.2.2.2.2.2.2 z2.2.2.2.2.2.2.2.2.2.2 q3
/-- what was there stands on; nothing came -/
theorem s_st.fr (h : s_st g m n) (hc : s_cf m m') (hm : s_mf n n') (h1 : n' 428 15 = n 428 15) (hb : s_bd m' n') : s_st g m' n' := by
  obtain ⟨a0, b1, b2, b3, b4⟩ := h
  refine ⟨hb, ?_, ?_, ?_, ?_⟩
  · intro b q1 q2
    rw [h1] at q2
    exact (b1 b q1 q2).fr ⟨q1, q2⟩ hc hm s_ex.rf
  · rw [h1]; exact b2
  · rw [h1]
    intro b c q1 q2 q3 q4
    have hb := b1 b q1 q2
    rw [hc.2.2.1 364 _ (by decide) (by decide) (by have := hb.1; omega) hb.2.1]
    exact b3 b c q1 q2 q3 q4
  · rw [h1]
    intro b q1 q2 q3
    rw [hm.2.2.1 432 b (by decide) (by decide) q1 q2] at q3
    obtain ⟨c1, c2, c3⟩ := b4 b q1 q2 q3
    exact ⟨c1.fr ⟨q1, q2⟩ b1 hc hm s_ex.rf, c2, c3⟩
end SA
