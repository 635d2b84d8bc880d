/-! ===== the loader: inside an object stream: the pairs ===== -/
/-- the pairs of numbers from p on: the place of number k, which is at T -/
def l_in (W : Int → Int) (L T k : Int) : Nat → Int → Int → Int → Int → Prop
  | 0, _, _, v, v' => v' = v
  | j + 1, p, i, v, v' => t_un W L (e_p1 W L p) ∧ t_un W L (e_p2 W L p) ∧ l_in W L T k j (e_ue W L (e_p2 W L p)) (i + 1) (if i = T ∧ e_un W L (e_p1 W L p) = k then e_un W L (e_p2 W L p) else v) v'
theorem t_mN : t_s 282 (s_wd 39) := ⟨by decide, by decide, by decide, _, rfl⟩
theorem t_mFirst : t_s 284 (s_wd 40) := ⟨by decide, by decide, by decide, _, rfl⟩
theorem t_mObjStm : t_s 280 (s_wd 38) := ⟨by decide, by decide, by decide, _, rfl⟩
section SI2
variable {d c : Nat} {g g' : s_g} {m m' m1 m2 n n' n1 n2 : w_M} {Q : Int → w_M → Prop} {W : Int → Int} {L p k v v' x y P r b w C i l2 l5 T o B F many K : Int}
theorem l_in_past : ∀ (j : Nat) (p i v v' : Int), T < i → l_in W L T k j p i v v' → v' = v := by
  intro j
  induction j with
  | zero => intro p i v v' _ h; exact h
  | succ j ih =>
    intro p i v v' hi h
    obtain ⟨_, _, h3⟩ := h
    rw [if_neg (by omega)] at h3
    exact ih _ _ _ _ (by omega) h3
theorem l_in_one : ∀ (j : Nat) (p i v x y : Int), l_in W L T k j p i v x → l_in W L T k j p i v y → x = y := by
  intro j
  induction j with
  | zero => intro p i v x y h h2; exact h.trans h2.symm
  | succ j ih =>
    intro p i v x y h h2
    exact ih _ _ _ _ _ h.2.2 h2.2.2
theorem l_in_r : ∀ (j : Nat) (p i v v' : Int), -1 ≤ v → v ≤ 2147483647 → l_in W L T k j p i v v' → -1 ≤ v' ∧ v' ≤ 2147483647 := by
  intro j
  induction j with
  | zero => intro p i v v' h1 h2 h; rw [h]; exact ⟨h1, h2⟩
  | succ j ih =>
    intro p i v v' h1 h2 h
    obtain ⟨_, u2, h3⟩ := h
    have r := e_un0 u2
    refine ih _ _ _ _ ?_ ?_ h3
    · split <;> omega
    · split <;> omega
/-- the class's loop -/
theorem c_in_bad (hs : m 366 11 ≤ 200) (hQ : ∀ m', l_op m m' → m' 376 6 ≠ 0 → Q 0 m') : xp_lo_findInside_237 (d + 3) o 0 x y m Q := by
  apply xr_lo_findInside_237
  rw [if_pos rfl]
  exact sp_failObject (d := d) hs hQ
theorem c_in (hu : l_us m k) (hs : m 366 11 ≤ 200) (hB : 0 ≤ B ∧ B ≤ 40000) (hF : 0 ≤ F ∧ F ≤ 2147483647) (hT : m 369 k = T) (h3 : m 376 3 = B) (hm : many ≤ 200)
    (H1 : ∀ v', 0 ≤ v' → l_in W L T k many.toNat 0 0 (-1) v' → ∀ m', c_ch m m' 376 → (∃ q, c_st m' 376 W L q) → Q 1 (w_up m' 376 4 (w_32 (min (B + F + v') (B + L))))) (H0 : (¬ ∃ v', 0 ≤ v' ∧ l_in W L T k many.toNat 0 0 (-1) v') → ∀ m', l_op m m' → m' 376 6 ≠ 0 → Q 0 m') :
    ∀ (j : Nat) (i p v : Int) (m1 : w_M), i + j = many → 0 ≤ i → c_ch m m1 376 → c_st m1 376 W L p → -1 ≤ v → v ≤ 2147483647 → (∀ v', l_in W L T k many.toNat 0 0 (-1) v' ↔ l_in W L T k j p i v v') →
      xp_lo_findInside_148 (d + 5) k o many F 1 B (B + L) (if v < 0 then -1 else B + F + v) i m1 Q := by
  intro j
  induction j with
  | zero =>
    intro i p v m1 hi i0 hc hst v0 v1 hl
    apply xr_lo_findInside_148
    rw [if_neg (by omega)]
    apply xr_lo_findInside_237
    rw [if_neg (by decide)]
    have z : l_in W L T k many.toNat 0 0 (-1) v := (hl v).mpr rfl
    by_cases q : v < 0
    · rw [if_pos q, if_pos (by decide)]
      refine sp_failObject (d := d + 2) (by rw [hc _ _ (by omega)]; exact hs) (fun m' f z' => H0 (fun ⟨x, x0, x1⟩ => ?_) m' (hc.lop.tr f) z')
      have := l_in_one _ _ _ _ _ _ x1 z
      omega
    · rw [if_neg q, if_neg (by omega)]
      exact H1 v (by omega) z m1 hc ⟨p, hst⟩
  | succ j ih =>
    intro i p v m1 hi i0 hc hst v0 v1 hl
    have u1 : l_us m1 k := hu.fr (hc _ _ (by omega)) (hc _ _ (by omega))
    have hs1 : ∀ {m2 : w_M}, c_ch m m2 376 → m2 366 11 ≤ 200 := fun f => by rw [f _ _ (by omega)]; exact hs
    have us1 : ∀ {m2 : w_M}, c_ch m m2 376 → l_us m2 k := fun f => hu.fr (f _ _ (by omega)) (f _ _ (by omega))
    have bad : ∀ (r1 r2 : Int) (m2 : w_M), c_ch m m2 376 → (¬ ∃ v', l_in W L T k many.toNat 0 0 (-1) v') → ∀ y, xp_lo_findInside_197 (d + 5) k o many F B (B + L) y i r1 r2 0 m2 Q := by
      intro r1 r2 m2 f2 z y
      have e : ∀ y, xp_lo_findInside_148 (d + 5) k o many F 0 B (B + L) y (i + 1) m2 Q := fun y => by
        apply xr_lo_findInside_148
        have fin : ∀ y, xp_lo_findInside_237 (d + 5) o 0 (B + L) y m2 Q := fun y => c_in_bad (d := d + 2) (hs1 f2) (fun m' f z' => H0 (fun ⟨x, _, x1⟩ => z ⟨x, x1⟩) m' (f2.lop.tr f) z')
        refine z_ite (fun _ => ?_) (fun _ => fin y)
        rw [if_pos rfl]
        exact fin y
      apply xr_lo_findInside_197
      refine sp_generationOf_y (d := d + 3) (us1 f2) (hs1 f2) ?_
      rw [w_32_id (x := i + 1) (by omega) (by omega)]
      refine z_ite (fun _ => ?_) (fun _ => e _)
      exact z_ite (fun _ => e _) (fun _ => e _)
    apply xr_lo_findInside_148
    rw [if_pos (by omega), if_neg (by decide)]
    refine sp_unsigned (d := d + 2) hst rfl (fun t1 m2 c2 s2 => ?_) (fun t1 m2 c2 s2 => ?_)
    · have t1 : t_un W L (e_p1 W L p) := t1
      have r1 := e_un0 t1
      have e1 : g_va (g_s W (k_w W (L - p).toNat false p) (g_len W (L - k_w W (L - p).toNat false p).toNat (k_w W (L - p).toNat false p))) (W (k_w W (L - p).toNat false p)) = e_un W L (e_p1 W L p) := rfl
      rw [e1, if_neg (by omega)]
      have s2 : c_st m2 376 W L (e_ue W L (e_p1 W L p)) := s2
      refine sp_unsigned (d := d + 2) s2 rfl (fun t2 m3 c3 s3 => ?_) (fun t2 m3 c3 s3 => ?_)
      · have t2 : t_un W L (e_p2 W L p) := t2
        have r2 := e_un0 t2
        have e2 : g_va (g_s W (k_w W (L - e_ue W L (e_p1 W L p)).toNat false (e_ue W L (e_p1 W L p))) (g_len W (L - k_w W (L - e_ue W L (e_p1 W L p)).toNat false (e_ue W L (e_p1 W L p))).toNat (k_w W (L - e_ue W L (e_p1 W L p)).toNat false (e_ue W L (e_p1 W L p))))) (W (k_w W (L - e_ue W L (e_p1 W L p)).toNat false (e_ue W L (e_p1 W L p)))) = e_un W L (e_p2 W L p) := rfl
        rw [e2, if_neg (by omega)]
        have s3 : c_st m3 376 W L (e_ue W L (e_p2 W L p)) := s3
        have c3 : c_ch m m3 376 := (hc.tr c2).tr c3
        have nx : ∀ v', l_in W L T k (j + 1) p i v v' ↔ l_in W L T k j (e_ue W L (e_p2 W L p)) (i + 1) (if i = T ∧ e_un W L (e_p1 W L p) = k then e_un W L (e_p2 W L p) else v) v' := fun v' => ⟨fun z => z.2.2, fun z => ⟨t1, t2, z⟩⟩
        apply xr_lo_findInside_197
        refine sp_generationOf_y (d := d + 3) (us1 c3) (hs1 c3) ?_
        rw [c3 369 k (by omega), hT, w_32_id (x := i + 1) (by omega) (by omega), w_64_id (x := B + F) (by omega) (by omega), w_64_id (x := B + F + e_un W L (e_p2 W L p)) (by omega) (by omega)]
        have go := ih (i + 1) (e_ue W L (e_p2 W L p)) (if i = T ∧ e_un W L (e_p1 W L p) = k then e_un W L (e_p2 W L p) else v) m3 (by omega) (by omega) c3 s3 (by split <;> omega) (by split <;> omega) (fun v' => (hl v').trans (nx v'))
        by_cases q1 : i = T
        · rw [if_pos q1]
          by_cases q2 : e_un W L (e_p1 W L p) = k
          · rw [if_pos q2]
            rw [if_pos (show i = T ∧ e_un W L (e_p1 W L p) = k from ⟨q1, q2⟩), if_neg (by omega)] at go
            exact go
          · rw [if_neg q2]
            rw [if_neg (show ¬ (i = T ∧ e_un W L (e_p1 W L p) = k) from fun z => q2 z.2)] at go
            exact go
        · rw [if_neg q1]
          rw [if_neg (show ¬ (i = T ∧ e_un W L (e_p1 W L p) = k) from fun z => q1 z.1)] at go
          exact go
      · rw [if_pos (by decide)]
        exact bad _ _ m3 ((hc.tr c2).tr c3) (fun ⟨x, x1⟩ => t2 ((hl x).mp x1).2.1) _
    · rw [if_pos (by decide)]
      exact bad _ _ m2 (hc.tr c2) (fun ⟨x, x1⟩ => t1 ((hl x).mp x1).1) _
/-- the reference's loop -/
theorem r_in (hk : 0 ≤ k ∧ k < 200) (h27 : n 428 27 = 0) (hF : 0 ≤ F ∧ F ≤ 2147483647) (hT : n 453 k = T) (hT0 : 0 ≤ T ∧ T < many) (hm : many ≤ 200) (hL : L ≤ 8000) 
    (H1 : ∀ v', 0 ≤ v' → l_in W L T k many.toNat 0 0 (-1) v' → ∀ n' q, m_ag n n' → e_G n' W L q → xp_m_readIn_448 (d + 5) k (min (F + v') L) n' Q) (H0 : (¬ ∃ v', 0 ≤ v' ∧ l_in W L T k many.toNat 0 0 (-1) v') → ∀ n', (∀ i j : Int, ¬ (i = 428 ∧ 21 ≤ j ∧ j ≤ 28) → ¬ (i = 440 ∧ n 428 17 ≤ j ∧ j < 140000) → n' i j = n i j) → n' 428 27 ≠ 0 → Q 0 n') :
    ∀ (j : Nat) (i p v : Int) (n1 : w_M), i + j = many → 0 ≤ i → m_ag n n1 → e_G n1 W L p → -1 ≤ v → v ≤ 2147483647 → ((T < i → 0 ≤ v) ∧ (i ≤ T → v = -1)) → (∀ v', l_in W L T k many.toNat 0 0 (-1) v' ↔ l_in W L T k j p i v v') →
      xp_m_readIn_284 (d + 5) k P many F v i n1 Q := by
  intro j
  induction j with
  | zero =>
    intro i p v n1 hi i0 ha hG v0 v1 vT hl
    have z : l_in W L T k many.toNat 0 0 (-1) v := (hl v).mpr rfl
    have := H1 v (vT.1 (by omega)) z n1 p ha hG
    apply xr_m_readIn_284
    rw [if_neg (by omega), hG.1.1.2.2.2.2.1, w_64_id (x := F + v) (by omega) (by omega)]
    by_cases q : L < F + v
    · rw [if_pos q]
      rw [show min (F + v) L = L by omega] at this
      exact this
    · rw [if_neg q, w_32_id (x := F + v) (by omega) (by omega)]
      rw [show min (F + v) L = F + v by omega] at this
      exact this
  | succ j ih =>
    intro i p v n1 hi i0 ha hG v0 v1 vT hl
    have fl : ∀ {n2 : w_M} {c v : Int}, m_ag n n2 → ∀ i j : Int, ¬ (i = 428 ∧ 21 ≤ j ∧ j ≤ 28) → ¬ (i = 440 ∧ n 428 17 ≤ j ∧ j < 140000) → m_fl n2 c v i j = n i j := fun f i j q1 q2 => (m_fl_o (by omega)).trans (f i j (by omega) q2)
    have z27 : ∀ {n2 : w_M}, m_ag n n2 → n2 428 27 = 0 := fun f => by rw [f _ _ (by omega) (by omega)]; exact h27
    have bad354 : ∀ (n2 : w_M) (y : Int), m_ag n n2 → (¬ ∃ v', 0 ≤ v' ∧ l_in W L T k many.toNat 0 0 (-1) v') → xp_m_readIn_354 (d + 5) k P many F v i 0 y n2 Q := by
      intro n2 y f2 z
      apply xr_m_readIn_354
      rw [if_pos rfl]
      refine sp_m_fail ?_
      exact H0 z _ (fl f2) (m_fl_ne (z27 f2) (by decide))
    have bad315 : ∀ (n2 : w_M), m_ag n n2 → (¬ ∃ v', 0 ≤ v' ∧ l_in W L T k many.toNat 0 0 (-1) v') → xp_m_readIn_315 (d + 5) k P many F v i 0 n2 Q := by
      intro n2 f2 z
      apply xr_m_readIn_315
      rw [if_pos rfl]
      exact bad354 n2 _ f2 z
    have p0 := hG.1.2.2.2.1
    have pL := hG.1.2.2.2.2
    apply xr_m_readIn_284
    rw [if_pos (by omega)]
    refine r_tok (d := d) hG (fun n2 t2 k2 => ?_)
    have a2 : m_ag n n2 := ha.tr t2
    by_cases u1 : t_un W L (e_p1 W L p)
    · obtain ⟨b1, b2⟩ := k2.un.mpr u1
      obtain ⟨b3, b4⟩ := k2.un2 u1
      rw [if_pos b1, if_pos b2]
      apply xr_m_readIn_315
      rw [if_neg (by decide)]
      have w1 := e_kw_r (W := W) p0 pL
      have w2 := e_ue_r (W := W) (L := L) (p := e_kw W L p) (by omega) (by omega)
      have G2 : e_G n2 W L (e_ue W L (e_p1 W L p)) := hG.ma t2.ema b4 (by show p ≤ e_ue W L (e_kw W L p); omega) w2.2
      refine r_tok (d := d) G2 (fun n3 t3 k3 => ?_)
      have a3 : m_ag n n3 := a2.tr t3
      have g0 : 0 ≤ e_ue W L (e_p1 W L p) := by show 0 ≤ e_ue W L (e_kw W L p); omega
      have w3 := e_kw_r (W := W) (L := L) (p := e_ue W L (e_p1 W L p)) g0 w2.2
      have e2 : e_p2 W L p = e_kw W L (e_ue W L (e_p1 W L p)) := rfl
      by_cases u2 : t_un W L (e_p2 W L p)
      · obtain ⟨c1, c2⟩ := k3.un.mpr u2
        obtain ⟨c3, c4⟩ := k3.un2 u2
        have r2 := e_un0 u2
        have w4 := e_ue_r (W := W) (L := L) (p := e_p2 W L p) (by omega) (by omega)
        have G3 : e_G n3 W L (e_ue W L (e_p2 W L p)) := G2.ma t3.ema c4 (by omega) w4.2
        have nx : ∀ v', l_in W L T k (j + 1) p i v v' ↔ l_in W L T k j (e_ue W L (e_p2 W L p)) (i + 1) (if i = T ∧ e_un W L (e_p1 W L p) = k then e_un W L (e_p2 W L p) else v) v' := fun v' => ⟨fun z => z.2.2, fun z => ⟨u1, u2, z⟩⟩
        have eT : n3 453 k = T := by rw [a3 _ _ (by omega) (by omega)]; exact hT
        have c3' : n3 428 24 = e_un W L (e_p2 W L p) := c3
        have b3' : n2 428 24 = e_un W L (e_p1 W L p) := b3
        rw [if_pos c1, if_pos c2]
        apply xr_m_readIn_354
        rw [if_neg (by decide), eT, c3', b3', w_32_id (x := i + 1) (by omega) (by omega)]
        refine ⟨hk, ?_⟩
        by_cases q1 : i = T
        · rw [if_pos q1]
          by_cases q2 : e_un W L (e_p1 W L p) = k
          · rw [if_pos q2]
            refine ⟨hk, ?_⟩
            rw [if_pos q1]
            refine ih (i + 1) (e_ue W L (e_p2 W L p)) _ n3 (by omega) (by omega) a3 G3 (by omega) (by omega) ⟨fun _ => r2.1, fun z => by omega⟩ (fun v' => (hl v').trans ?_)
            rw [nx v', if_pos (show i = T ∧ e_un W L (e_p1 W L p) = k from ⟨q1, q2⟩)]
          · rw [if_neg q2]
            refine sp_m_fail ?_
            refine H0 (fun ⟨x, x0, x1⟩ => ?_) _ (fl a3) (m_fl_ne (z27 a3) (by decide))
            have y := (nx x).mp ((hl x).mp x1)
            rw [if_neg (show ¬ (i = T ∧ e_un W L (e_p1 W L p) = k) from fun z => q2 z.2)] at y
            have ex := l_in_past _ _ _ _ _ (by omega) y
            have := vT.2 (by omega)
            omega
        · rw [if_neg q1]
          refine ⟨hk, ?_⟩
          rw [if_neg q1]
          refine ih (i + 1) (e_ue W L (e_p2 W L p)) v n3 (by omega) (by omega) a3 G3 v0 v1 ⟨fun z => vT.1 (by omega), fun z => vT.2 (by omega)⟩ (fun v' => (hl v').trans ?_)
          rw [nx v', if_neg (show ¬ (i = T ∧ e_un W L (e_p1 W L p) = k) from fun z => q1 z.1)]
      · have bad := bad354 n3 (n2 428 24) a3 (fun ⟨x, _, x1⟩ => u2 ((hl x).mp x1).2.1)
        have nu : ¬ (n3 428 22 = 1 ∧ n3 428 25 = 0) := fun w => u2 (k3.un.mp w)
        refine z_ite (fun y1 => ?_) (fun _ => bad)
        rw [if_neg (fun w => nu ⟨y1, w⟩)]
        exact bad
    · have bad := bad315 n2 a2 (fun ⟨x, _, x1⟩ => u1 ((hl x).mp x1).1)
      have nu : ¬ (n2 428 22 = 1 ∧ n2 428 25 = 0) := fun w => u1 (k2.un.mp w)
      refine z_ite (fun y1 => ?_) (fun _ => bad)
      rw [if_neg (fun w => nu ⟨y1, w⟩)]
      exact bad
end SI2
