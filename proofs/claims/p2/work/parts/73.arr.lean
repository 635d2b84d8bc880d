/-! ===== arrays: both sides ===== -/
/-- where white ends, it stays -/
theorem k_w_stop (W : Int → Int) : ∀ (k : Nat) (r : Bool) (p : Int), k_w W k r p = p + k ∨ (¬ b_w (W (k_w W k r p)) ∧ W (k_w W k r p) ≠ 37) := by
  intro k
  induction k with
  | zero => intro r p; left; show p = p + ((0 : Nat) : Int); omega
  | succ k ih =>
    intro r p
    have e : p + ((k + 1 : Nat) : Int) = p + 1 + (k : Int) := by omega
    unfold k_w
    rw [e]
    split
    · exact ih _ _
    · split
      · exact ih _ _
      · split
        · rename_i z; right; exact ⟨z.2, by assumption⟩
        · exact ih _ _
theorem k_w_id {W : Int → Int} {L p p' : Int} (hp : 0 ≤ p ∧ p ≤ L) (h : p' = k_w W (L - p).toNat false p) : k_w W (L - p').toNat false p' = p' := by
  have kr := k_w_r W (L - p).toNat false p
  rcases k_w_stop W (L - p).toNat false p with z | ⟨z1, z2⟩
  · rw [show (L - p').toNat = 0 by omega]
    rfl
  · rw [← h] at z1 z2
    cases hk : (L - p').toNat with
    | zero => rfl
    | succ k =>
      unfold k_w
      rw [if_neg (fun y => z1 (by rcases y with y | y <;> rw [y] <;> decide)), if_neg z2, if_pos ⟨rfl, z1⟩]
/-- the token's kinds -/
theorem m_tk.k7 {n : w_M} {W : Int → Int} {L p : Int} (h : m_tk n W L p) : (n 428 22 = 7 → W p = 93) ∧ (W p = 93 → n 428 22 = 7 ∧ n 428 21 = p + 1) := by
  obtain ⟨h0, h⟩ := h
  rcases h with h | ⟨h, r, _⟩ | ⟨h, r⟩ | ⟨h, r⟩ | h | h | h | h | h
  · exact ⟨fun z => by omega, fun z => by omega⟩
  · refine ⟨fun z => ?_, fun z => by omega⟩
    obtain ⟨r1, r2, r3⟩ := r
    by_cases y : g_kd (g_s W p (g_len W (L - p).toNat p)) = -1
    · have := (r2 y).1; omega
    · rcases r3 y with w | w
      · omega
      · have := w.2.2
        split at this <;> omega
  · refine ⟨fun z => ?_, fun z => by clear r; omega⟩
    rcases r with ⟨_, _, _, r⟩ | ⟨_, _, _, _, _, _, _, _, r⟩
    · omega
    · split at r <;> omega
  · refine ⟨fun z => ?_, fun z => by clear r; omega⟩
    rcases r with ⟨_, _, _, r⟩ | ⟨_, _, _, _, _, _, _, _, r⟩
    · omega
    · split at r <;> omega
  · exact ⟨fun z => by omega, fun z => by omega⟩
  · exact ⟨fun z => by omega, fun z => by omega⟩
  · exact ⟨fun z => by omega, fun z => by omega⟩
  · exact ⟨fun z => h.1, fun z => h.2⟩
  · exact ⟨fun z => by omega, fun z => by omega⟩
section AR
variable {g g0 g1 g' : s_g} {m m0 m' m1 m2 n n0 n' n1 n2 : w_M} {P L p p0 q e k a b s c D refs R : Int} {W : Int → Int} {l : List Int} {Q : Int → w_M → Prop} {d d' : Nat}
theorem s_LI.ch (h : s_LI g0 g m0 n0 m n P W L q R k l) (hc : c_ch m m' P) (hs : c_st m' P W L e) (he : q ≤ e) : s_LI g0 g m0 n0 m' n P W L e R k l := by
  obtain ⟨a1, a2, a3, a4, a5, a6, a7, a8, a9, b1, b2, b3, b4, b5, b6, b7, b8⟩ := h
  have hP := a1.2.1.1.2.1
  have hP' := w_isP_o hP
  have e6 : m' 359 6 = m 359 6 := hc _ _ (by omega)
  refine ⟨a1.ch hc hs he, a2, a3.tr (hc.fp hP), a4, a5, by omega, a7, a8, a9, b1, b2, b3, b4, b5, ?_, ?_, b8⟩
  · rw [hc _ _ (by omega)]; exact b6
  · rw [e6]
    exact b7.fr (fun b _ _ => ⟨rfl, rfl, rfl, rfl⟩) (fun c _ _ => hc _ _ (by omega)) (fun _ _ _ => rfl) (fun _ _ _ _ _ _ => rfl)
theorem s_LI.ag (h : s_LI g0 g m0 n0 m n P W L q R k l) (hm : m_ag n n1) : s_LI g0 g m0 n0 m n1 P W L q R k l := by
  obtain ⟨a1, a2, a3, a4, a5, a6, a7, a8, a9, b1, b2, b3, b4, b5, b6, b7, b8⟩ := h
  have e15 : n1 428 15 = n 428 15 := hm _ _ (by omega) (by omega)
  refine ⟨a1.ag hm, a2, a3, a4.tr hm.fr, by omega, a6, ?_, a8, a9, b1, b2, b3, b4, ?_, b6, ?_, ?_⟩
  · rw [hm _ _ (by omega) (by omega)]; exact a7
  · rw [hm _ _ (by omega) (by omega)]; exact b5
  · rw [e15]
    exact b7.fr (fun b _ _ => ⟨rfl, rfl, rfl, rfl⟩) (fun _ _ _ => rfl) (fun b _ _ => hm _ _ (by omega) (by omega)) (fun _ _ _ _ _ _ => rfl)
  · rw [e15]; exact b8
/-- the array's, the dict's end is told -/
def s_gs (g : s_g) (a e : Int) : s_g := (g.1, g.2.1, g.2.2.1, g.2.2.2.1, g.2.2.2.2.1, fun b => if b = a then e else g.2.2.2.2.2 b)
/-- all parts are read -/
theorem s_LI.fin (h : s_LI g0 g m0 n0 m n P W L q R k l) (hp : p < q) (h21 : n 428 21 = q) : s_O g0 m0 n0 m n P W L p (m0 359 6) (n0 428 15) R := by
  obtain ⟨a1, a2, a3, a4, a5, a6, a7, a8, a9, b1, b2, b3, b4, b5, b6, b7, b8, b9, b10, b11⟩ := h
  have st := a1.1
  obtain ⟨ls, lc⟩ := st.2.2.2.2 (n0 428 15) b10 a5 (by rw [a7]; exact a8)
  obtain ⟨ls1, ls2, ls3, ls4⟩ := ls
  rw [a9] at ls1
  have mem := ls1.mem
  have gsN : (s_gs g (n0 428 15) (n 428 15)).2.2.2.2.2 (n0 428 15) = n 428 15 := if_pos rfl
  have gso : ∀ b : Int, b ≠ n0 428 15 → (s_gs g (n0 428 15) (n 428 15)).2.2.2.2.2 b = g.2.2.2.2.2 b := fun b z => if_neg z
  refine ⟨s_gs g (n0 428 15) (n 428 15), q, rfl, rfl, hp, h21, a1, fun b q1 q2 => ?_, a3, a4, b1, b2, b3, b5, b6, gsN, a5, a6, ?_, ?_⟩
  · obtain ⟨y1, y2, y3, y4, y5, y6⟩ := a2 b q1 q2
    exact ⟨y1, y2, y3, y4, y5, (gso b (by omega)).trans y6⟩
  · intro b q1 q2
    by_cases z : b = n0 428 15
    · subst z
      rw [gsN]
      refine ⟨by show m0 359 6 ≤ g.1 _; omega, b4, a5, Int.le_refl _, fun _ => ?_, fun z => absurd (by rw [a7]; exact a8) z⟩
      show s_tl _ _ (g.2.1 (n0 428 15)) _
      rw [a9]
      exact b8.fr (fun w hw => gso w (by have := b9 w hw; omega))
    · obtain ⟨c1, c2, c3, c4, c5, c6⟩ := b7.1 b (by omega) q2
      rw [gso b z]
      refine ⟨by show m0 359 6 ≤ g.1 b; omega, c2, c3, c4, fun y => (c5 y).fr (fun w hw => gso w (fun v => ?_)), c6⟩
      have hls := (st.2.2.2.2 b (by omega) q2 y).1
      have := (hls.2.2.1 w hw).1
      rw [v, b3] at this
      have := (st.2.2.2.2 b (by omega) q2 y).2.1
      omega
  · intro c q1 q2
    by_cases z : c = m0 359 6
    · exact Or.inl ⟨n0 428 15, Int.le_refl _, a5, by rw [z]; exact b1⟩
    · rcases b7.2 c (by omega) q2 with ⟨b, y1, y2, y3⟩ | y
      · exact Or.inl ⟨b, by omega, y2, y3⟩
      · exact Or.inr y
theorem r_nm_int {S : Nat → Prop} {i j v : Int} (hn : w_nm (w_G0 S) n) (hi : 433 ≤ i ∧ i ≤ 439) (hS : S i.toNat) (hj : 0 ≤ j ∧ j < 40000) (hv : -2147483648 ≤ v ∧ v < 2147483648) : w_nm (w_G0 S) (w_up n i j v) := by
  have key : ∀ i : Int, (433 ≤ i ∧ i ≤ 439) → w_sh0 i.toNat = some (.inr (0, 40000)) := by
    intro i hi
    have : i = 433 ∨ i = 434 ∨ i = 435 ∨ i = 436 ∨ i = 437 ∨ i = 438 ∨ i = 439 := by omega
    rcases this with e | e | e | e | e | e | e <;> subst e <;> rfl
  exact w_st_nm hn (by omega) (w_sh0_eq.trans (key i hi)) ⟨by show 357 ≤ i.toNat; omega, hS⟩ hj hv
end AR
