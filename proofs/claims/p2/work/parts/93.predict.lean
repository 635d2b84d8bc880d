/-! ===== filters: predictors taken back, both sides ===== -/
/-- what is guessed -/
def z_g (w l a c : Int) : Int :=
  if w = 1 then l else if w = 2 then a else if w = 3 then (l + a) / 2 else if w = 4 then
    (if (if a - c < 0 then -(a - c) else a - c) ≤ (if l - c < 0 then -(l - c) else l - c) ∧ (if a - c < 0 then -(a - c) else a - c) ≤ (if l + a - 2 * c < 0 then -(l + a - 2 * c) else l + a - 2 * c) then l
     else if (if l - c < 0 then -(l - c) else l - c) ≤ (if l + a - 2 * c < 0 then -(l + a - 2 * c) else l + a - 2 * c) then a else c)
  else 0
/-- the byte at i in a row of width c that begins behind at, of kind w -/
def z_ce (I : Int → Int) (w c a i : Int) (o : List Int) : Int :=
  w_8 (I (a + 1 + i) + z_g w (if 0 < i then o.getD ((o.length : Int) - 1).toNat 0 % 256 else 0) (if 0 < a then o.getD ((o.length : Int) - c).toNat 0 % 256 else 0) (if 0 < i ∧ 0 < a then o.getD ((o.length : Int) - c - 1).toNat 0 % 256 else 0))
def z_rw (I : Int → Int) (w c a : Int) : Nat → Int → List Int → List Int
  | 0, _, o => o
  | k + 1, i, o => z_rw I w c a k (i + 1) (o ++ [z_ce I w c a i o])
def z_un (I : Int → Int) (c : Int) : Nat → Int → List Int → Option (List Int)
  | 0, _, o => some o
  | k + 1, a, o => if 4 < I a then none else z_un I c k (a + (c + 1)) (z_rw I (I a) c a c.toNat 0 o)
/-- N bytes with a predictor of c columns taken back -/
def z_pr (I : Int → Int) (N c : Int) : Option (List Int) := if N % (c + 1) = 0 then z_un I c (N / (c + 1)).toNat 0 [] else none
section ZP
variable {d : Nat} {m m' m2 n n' n2 : w_M} {Q : Int → w_M → Prop} {I : Int → Int} {O N a c w i : Int} {k : Nat} {o : List Int}
theorem z_g_c {l a c : Int} (h1 : 0 ≤ l ∧ l < 256) (h2 : 0 ≤ a ∧ a < 256) (h3 : 0 ≤ c ∧ c < 256) : f_fi_guess m w l a c = z_g w l a c := by
  have e1 : w_32 (l + a) = l + a := w_32_id (by omega) (by omega)
  have e2 : w_32 (2 * c) = 2 * c := w_32_id (by omega) (by omega)
  have e3 : w_32 (l - c) = l - c := w_32_id (by omega) (by omega)
  have e4 : w_32 (a - c) = a - c := w_32_id (by omega) (by omega)
  have e5 : w_32 (l + a - 2 * c) = l + a - 2 * c := w_32_id (by omega) (by omega)
  have e6 : w_32 (-(l - c)) = -(l - c) := w_32_id (by omega) (by omega)
  have e7 : w_32 (-(a - c)) = -(a - c) := w_32_id (by omega) (by omega)
  have e8 : w_32 (-(l + a - 2 * c)) = -(l + a - 2 * c) := w_32_id (by omega) (by omega)
  unfold f_fi_guess z_g
  rw [e1, e2, e3, e4, e5, e6, e7, e8, Int.tdiv_eq_ediv_of_nonneg (by omega)]
  clear e1 e2 e3 e4 e5 e6 e7 e8
  obtain ⟨x, hx⟩ : ∃ x, x = (if a - c < 0 then -(a - c) else a - c) := ⟨_, rfl⟩
  obtain ⟨y, hy⟩ : ∃ y, y = (if l - c < 0 then -(l - c) else l - c) := ⟨_, rfl⟩
  obtain ⟨z, hz⟩ : ∃ z, z = (if l + a - 2 * c < 0 then -(l + a - 2 * c) else l + a - 2 * c) := ⟨_, rfl⟩
  rw [← hx, ← hy, ← hz]
  clear hx hy hz
  by_cases q1 : w = 1
  · rw [if_pos q1, if_pos q1]
  · rw [if_neg q1, if_neg q1]
    by_cases q2 : w = 2
    · rw [if_pos q2, if_pos q2]
    · rw [if_neg q2, if_neg q2]
      by_cases q3 : w = 3
      · rw [if_pos q3, if_pos q3]
      · rw [if_neg q3, if_neg q3]
        by_cases q4 : w = 4
        · rw [if_pos q4, if_pos q4]
          by_cases u1 : y < x
          · by_cases u2 : z < y
            · by_cases u3 : z < x
              · first
                | (rw [if_pos u1, if_pos u2, if_neg (by omega), if_neg (by omega)])
                | (rw [if_neg (by omega), if_neg (by omega)]; split <;> split <;> first | rfl | omega)
              · omega
            · rw [if_neg (by omega : ¬ (x ≤ y ∧ x ≤ z)), if_pos (by omega : y ≤ z)]
              split <;> (try split) <;> first | rfl | omega
          · by_cases u3 : z < x
            · rw [if_neg (by omega : ¬ (x ≤ y ∧ x ≤ z)), if_neg (by omega : ¬ y ≤ z)]
              split <;> (try split) <;> first | rfl | omega
            · rw [if_pos (by omega : x ≤ y ∧ x ≤ z)]
              split <;> (try split) <;> first | rfl | omega
        · rw [if_neg q4, if_neg q4]
theorem z_g_m {l a c : Int} (h1 : 0 ≤ l ∧ l < 256) (h2 : 0 ≤ a ∧ a < 256) (h3 : 0 ≤ c ∧ c < 256) : f_m_paeth n l a c = z_g 4 l a c := by
  have e1 : w_32 (l + a) = l + a := w_32_id (by omega) (by omega)
  have e2 : w_32 (l + a - c) = l + a - c := w_32_id (by omega) (by omega)
  have ap : ∀ x y : Int, -1000 ≤ x → x ≤ 1000 → -1000 ≤ y → y ≤ 1000 → f_m_apart n x y = if x < y then y - x else x - y := by
    intro x y q1 q2 q3 q4
    unfold f_m_apart
    rw [w_32_id (x := y - x) (by omega) (by omega), w_32_id (x := x - y) (by omega) (by omega)]
  have e4 : z_g 4 l a c = (if (if a - c < 0 then -(a - c) else a - c) ≤ (if l - c < 0 then -(l - c) else l - c) ∧ (if a - c < 0 then -(a - c) else a - c) ≤ (if l + a - 2 * c < 0 then -(l + a - 2 * c) else l + a - 2 * c) then l
     else if (if l - c < 0 then -(l - c) else l - c) ≤ (if l + a - 2 * c < 0 then -(l + a - 2 * c) else l + a - 2 * c) then a else c) := (if_neg (by decide : ¬ (4 : Int) = 1)).trans ((if_neg (by decide : ¬ (4 : Int) = 2)).trans ((if_neg (by decide : ¬ (4 : Int) = 3)).trans (if_pos rfl)))
  rw [e4]
  unfold f_m_paeth
  rw [e1, e2, ap _ l (by omega) (by omega) (by omega) (by omega), ap _ a (by omega) (by omega) (by omega) (by omega), ap _ c (by omega) (by omega) (by omega) (by omega)]
  clear ap e1 e2
  have x1 : (if l + a - c < l then l - (l + a - c) else l + a - c - l) = (if a - c < 0 then -(a - c) else a - c) := by
    by_cases q : a - c < 0
    · rw [if_pos (by omega), if_pos q]; omega
    · rw [if_neg (by omega), if_neg q]; omega
  have x2 : (if l + a - c < a then a - (l + a - c) else l + a - c - a) = (if l - c < 0 then -(l - c) else l - c) := by
    by_cases q : l - c < 0
    · rw [if_pos (by omega), if_pos q]; omega
    · rw [if_neg (by omega), if_neg q]; omega
  have x3 : (if l + a - c < c then c - (l + a - c) else l + a - c - c) = (if l + a - 2 * c < 0 then -(l + a - 2 * c) else l + a - 2 * c) := by
    by_cases q : l + a - 2 * c < 0
    · rw [if_pos (by omega), if_pos q]; omega
    · rw [if_neg (by omega), if_neg q]; omega
  rw [x1, x2, x3]
  obtain ⟨x, hx⟩ : ∃ x, x = (if a - c < 0 then -(a - c) else a - c) := ⟨_, rfl⟩
  obtain ⟨y, hy⟩ : ∃ y, y = (if l - c < 0 then -(l - c) else l - c) := ⟨_, rfl⟩
  obtain ⟨z, hz⟩ : ∃ z, z = (if l + a - 2 * c < 0 then -(l + a - 2 * c) else l + a - 2 * c) := ⟨_, rfl⟩
  rw [← hx, ← hy, ← hz]
  clear hx hy hz x1 x2 x3
  by_cases u1 : y < x
  · rw [if_pos u1, if_neg (by omega : ¬ (x ≤ y ∧ x ≤ z))]
    by_cases u2 : z < y
    · rw [if_pos u2, if_neg (by omega)]
    · rw [if_neg u2, if_pos (by omega)]
  · rw [if_neg u1]
    by_cases u2 : z < x
    · rw [if_pos u2, if_neg (by omega : ¬ (x ≤ y ∧ x ≤ z))]
      by_cases u3 : z < y
      · rw [if_pos u3, if_neg (by omega)]
      · rw [if_neg u3, if_pos (by omega)]
    · rw [if_neg u2, if_pos (by omega)]
theorem z_rw_len (k : Nat) : ∀ (i : Int) (o : List Int), ((z_rw I w c a k i o).length : Int) = o.length + k := by
  induction k with
  | zero => intro i o; show (o.length : Int) = o.length + ((0 : Nat) : Int); omega
  | succ k ih =>
    intro i o
    show ((z_rw I w c a k (i + 1) (o ++ [z_ce I w c a i o])).length : Int) = _
    rw [ih, t_len]
    omega
theorem z_rw_by (k : Nat) : ∀ (i : Int) (o : List Int), y_by o → y_by (z_rw I w c a k i o) := by
  induction k with
  | zero => intro i o h; exact h
  | succ k ih => intro i o h; exact ih _ _ (z_by_app h)
theorem z_un_by (k : Nat) : ∀ (a : Int) (o o' : List Int), y_by o → z_un I c k a o = some o' → y_by o' := by
  induction k with
  | zero => intro a o o' h e; rw [← Option.some.inj e]; exact h
  | succ k ih =>
    intro a o o' h e
    have e : (if 4 < I a then none else z_un I c k (a + (c + 1)) (z_rw I (I a) c a c.toNat 0 o)) = some o' := e
    split at e
    · cases e
    · exact ih _ _ _ (z_rw_by _ _ _ h) e
theorem z_get (h : z_at m O o) {j : Int} (h0 : 0 ≤ j) (h1 : j < o.length) : m O j = o.getD j.toNat 0 := by
  have := h j.toNat (by omega)
  rw [show ((j.toNat : Nat) : Int) = j by omega] at this
  exact this
/-- the class: what is left to be read, what is written -/
def z_ip (m : w_M) (O N p : Int) (I : Int → Int) (o : List Int) : Prop := z_at m O o ∧ ∀ i, p ≤ i → i < N → m O i % 256 = I i
theorem sp_unpr_60 (hO : O = 387 ∨ O = 388) (hc : 1 ≤ c ∧ c ≤ 200) (hN : N ≤ 8000) : ∀ (k : Nat) (i : Int) (o : List Int) (m : w_M), 0 ≤ i → i + k = c → 0 ≤ a → a + c + 1 ≤ N → (o.length : Int) ≤ a + i → i ≤ o.length → (0 < a → c + i ≤ o.length) → z_ip m O N (a + 1 + i) I o →
    (∀ m', z_fr O m m' → z_ip m' O N (a + 1 + c) I (z_rw I w c a k i o) → xp_fi_unpredict_33 (d + 1) O N c (c + 1) (z_rw I w c a k i o).length (a + (c + 1)) m' Q) → xp_fi_unpredict_60 (d + 1) O N c (c + 1) o.length a w i m Q := by
  obtain ⟨o1, o2, o3, o4, o5, o6, o7⟩ := y_oO hO
  intro k
  induction k with
  | zero =>
    intro i o m i0 hi a0 haN hl hl2 hl3 hip H
    apply xr_fi_unpredict_60
    rw [if_neg (by omega), w_32_id (x := a + (c + 1)) (by omega) (by omega)]
    refine H m z_fr.rf ?_
    have e : i = c := by omega
    rw [← e]
    exact hip
  | succ k ih =>
    intro i o m i0 hi a0 haN hl hl2 hl3 hip H
    obtain ⟨p1, p2⟩ := id hip
    obtain ⟨K, hK⟩ : ∃ K : Int, K = o.length := ⟨_, rfl⟩
    have hK' := hK
    rw [← hK] at hl hl2 hl3
    have fin : ∀ (l8 l9 cc v : Int), (0 ≤ l8 ∧ l8 < 256) → (0 ≤ l9 ∧ l9 < 256) → (0 ≤ cc ∧ cc < 256) → v = w_8 (m O (a + 1 + i) + z_g w l8 l9 cc) → z_ce I w c a i o = w_8 (I (a + 1 + i) + z_g w l8 l9 cc) → xp_fi_unpredict_60 (d + 1) O N c (c + 1) (K + 1) a w (i + 1) (w_up m O K v) Q := by
      intro l8 l9 cc v r1 r2 r3 ev ec
      have e2 := p2 (a + 1 + i) (by omega) (by omega)
      have ev2 : v = z_ce I w c a i o := by
        rw [ev, ec]
        unfold w_8
        rw [Int.bmod_def, Int.bmod_def]
        have : (m O (a + 1 + i) + z_g w l8 l9 cc) % 256 = (I (a + 1 + i) + z_g w l8 l9 cc) % 256 := by omega
        rw [show ((256 : Nat) : Int) = 256 from rfl, this]
      rw [ev2]
      have len1 := t_len o (z_ce I w c a i o)
      rw [← hK] at len1
      rw [← len1]
      refine ih (i + 1) (o ++ [z_ce I w c a i o]) _ (by omega) (by omega) a0 haN (by omega) (by omega) (fun z => by have := hl3 z; omega) ⟨by rw [hK]; exact p1.app, fun j q1 q2 => ?_⟩ (fun m' f y => H m' (z_fr.up.tr f) y)
      rw [w_up_nb (by omega)]
      exact p2 j (by omega) q2
    have g1 : ∀ j : Int, 0 ≤ j → j < K → m O j = o.getD j.toNat 0 := fun j q1 q2 => z_get p1 q1 (by omega)
    have ex1 : w_32 (a + 1) = a + 1 := w_32_id (by omega) (by omega)
    have ex2 : w_32 (a + 1 + i) = a + 1 + i := w_32_id (by omega) (by omega)
    have ex3 : w_32 (K + 1) = K + 1 := w_32_id (by omega) (by omega)
    have ex4 : w_32 (i + 1) = i + 1 := w_32_id (by omega) (by omega)
    have ex5 : w_32 (K - 1) = K - 1 := w_32_id (by omega) (by omega)
    have ex6 : w_32 (K - c) = K - c := w_32_id (by omega) (by omega)
    have ex7 : w_32 (K - c - 1) = K - c - 1 := w_32_id (by omega) (by omega)
    have rb : ∀ x : Int, 0 ≤ x % 256 ∧ x % 256 < 256 := fun x => by omega
    have gr : ∀ (l8 l9 cc : Int), f_fi_guess m w l8 l9 cc = z_g w l8 l9 cc → -100000 ≤ z_g w l8 l9 cc ∧ z_g w l8 l9 cc ≤ 100000 → True := fun _ _ _ _ _ => trivial
    have zr : ∀ (l8 l9 cc : Int), (0 ≤ l8 ∧ l8 < 256) → (0 ≤ l9 ∧ l9 < 256) → (0 ≤ cc ∧ cc < 256) → 0 ≤ z_g w l8 l9 cc ∧ z_g w l8 l9 cc < 256 := by
      intro l8 l9 cc r1 r2 r3
      unfold z_g
      repeat' split
      all_goals omega
    refine w_W.nm (fun hn => ?_)
    have hb : ∀ j, -128 ≤ m O j ∧ m O j < 128 := by
      rcases hO with e | e <;> subst e
      · exact fun j => w_ar_r hn (a := 387) (by decide) s_387 j
      · exact fun j => w_ar_r hn (a := 388) (by decide) s_388 j
    have hbx := hb (a + 1 + i)
    rw [← hK]
    -- behind the guess
    have last : ∀ (l8 l9 cc : Int), (0 ≤ l8 ∧ l8 < 256) → (0 ≤ l9 ∧ l9 < 256) → (0 ≤ cc ∧ cc < 256) → z_ce I w c a i o = w_8 (I (a + 1 + i) + z_g w l8 l9 cc) →
        xc_fi_guess (d + 1) w l8 l9 cc m (fun r1 m1 => w_isA 1 O ∧ w_wr (w_G0 sC) (Int.toNat O) ∧ ((0 : Int) ≤ K ∧ K < w_ln O) ∧ (xp_fi_unpredict_60 (d + 1) O N c (c + 1) (w_32 (K + 1)) a w (w_32 (i + 1)) (w_up m1 O K (w_8 (w_8 (w_32 ((m O (w_32 ((w_32 (a + 1)) + i))) + r1))))) Q)) := by
      intro l8 l9 cc r1 r2 r3 ec
      refine sp_fi_guess ?_
      rw [z_g_c r1 r2 r3, ex1, ex2, ex3, ex4]
      have z := zr l8 l9 cc r1 r2 r3
      rw [w_32_id (x := m O (a + 1 + i) + z_g w l8 l9 cc) (by omega) (by omega), w_8_8]
      exact ⟨o1, o4, by omega, fin l8 l9 cc _ r1 r2 r3 rfl ec⟩
    have ez : z_ce I w c a i o = w_8 (I (a + 1 + i) + z_g w (if 0 < i then o.getD (K - 1).toNat 0 % 256 else 0) (if 0 < a then o.getD (K - c).toNat 0 % 256 else 0) (if 0 < i ∧ 0 < a then o.getD (K - c - 1).toNat 0 % 256 else 0)) := by rw [hK]; rfl
    apply xr_fi_unpredict_60
    rw [if_pos (by omega)]
    by_cases q1 : 0 < i
    · rw [if_pos q1, ex5]
      rw [if_pos q1] at ez
      refine ⟨o1, by omega, ?_⟩
      by_cases q2 : 0 < a
      · have k3 := hl3 q2
        rw [if_pos q2, ex6]
        rw [if_pos q2, if_pos ⟨q1, q2⟩] at ez
        refine ⟨o1, by omega, ?_⟩
        apply xr_fi_unpredict_106
        rw [if_pos q1, if_pos q2, ex6, ex7]
        refine ⟨o1, by omega, o1, by rw [ex1, ex2]; omega, ?_⟩
        rw [g1 _ (by omega) (by omega), g1 _ (by omega) (by omega), g1 _ (by omega) (by omega)]
        exact last _ _ _ (rb _) (rb _) (rb _) ez
      · rw [if_neg q2]
        rw [if_neg q2, if_neg (fun y : 0 < i ∧ 0 < a => q2 y.2)] at ez
        apply xr_fi_unpredict_106
        rw [if_pos q1, if_neg q2]
        apply xr_fi_unpredict_133
        refine ⟨o1, by rw [ex1, ex2]; omega, ?_⟩
        rw [g1 _ (by omega) (by omega)]
        exact last _ _ _ (rb _) (by decide) (by decide) ez
    · rw [if_neg q1]
      rw [if_neg q1, if_neg (fun y : 0 < i ∧ 0 < a => q1 y.1)] at ez
      by_cases q2 : 0 < a
      · have k3 := hl3 q2
        rw [if_pos q2, ex6]
        rw [if_pos q2] at ez
        refine ⟨o1, by omega, ?_⟩
        apply xr_fi_unpredict_106
        rw [if_neg q1]
        apply xr_fi_unpredict_133
        refine ⟨o1, by rw [ex1, ex2]; omega, ?_⟩
        rw [g1 _ (by omega) (by omega)]
        exact last _ _ _ (by decide) (rb _) (by decide) ez
      · rw [if_neg q2]
        rw [if_neg q2] at ez
        apply xr_fi_unpredict_106
        rw [if_neg q1]
        apply xr_fi_unpredict_133
        refine ⟨o1, by rw [ex1, ex2]; omega, ?_⟩
        exact last _ _ _ (by decide) (by decide) (by decide) ez
theorem sp_unpr_33 (hO : O = 387 ∨ O = 388) (hc : 1 ≤ c ∧ c ≤ 200) (hN : N ≤ 8000) : ∀ (k : Nat) (a : Int) (o : List Int) (m : w_M), 0 ≤ a → a + k * (c + 1) = N → (o.length : Int) ≤ a → (0 < a → c ≤ o.length) → z_ip m O N a I o →
    (∀ o', z_un I c k a o = some o' → (o'.length : Int) ≤ N → ∀ m', z_fr O m m' → z_at m' O o' → Q o'.length m') → (z_un I c k a o = none → ∀ m', z_fr O m m' → Q (-1) m') → xp_fi_unpredict_33 (d + 1) O N c (c + 1) o.length a m Q := by
  obtain ⟨o1, o2, o3, o4, o5, o6, o7⟩ := y_oO hO
  intro k
  induction k with
  | zero =>
    intro a o m a0 ha hl hl3 hip H1 H0
    have ha : a = N := by omega
    apply xr_fi_unpredict_33
    rw [if_neg (by omega)]
    exact H1 o rfl (by omega) m z_fr.rf hip.1
  | succ k ih =>
    intro a o m a0 ha hl hl3 hip H1 H0
    have k0 : 0 ≤ (k : Int) * (c + 1) := Int.mul_nonneg (by omega) (by omega)
    have ek : ((k + 1 : Nat) : Int) * (c + 1) = k * (c + 1) + (c + 1) := by
      rw [show ((k + 1 : Nat) : Int) = (k : Int) + 1 by omega, Int.add_mul, Int.one_mul]
    rw [ek] at ha
    have eI := hip.2 a (Int.le_refl _) (by omega)
    have eun : z_un I c (k + 1) a o = if 4 < I a then none else z_un I c k (a + (c + 1)) (z_rw I (I a) c a c.toNat 0 o) := rfl
    apply xr_fi_unpredict_33
    rw [if_pos (by omega), eI, o3]
    refine ⟨o1, by omega, ?_⟩
    by_cases q : 4 < I a
    · rw [if_pos q]
      rw [if_pos q] at eun
      exact H0 eun m z_fr.rf
    · rw [if_neg q]
      rw [if_neg q] at eun
      refine sp_unpr_60 hO hc hN c.toNat 0 o m (by decide) (by omega) a0 (by omega) (by omega) (by omega) (fun z => by have := hl3 z; omega) ⟨hip.1, fun i q1 q2 => hip.2 i (by omega) q2⟩ (fun m' f y => ?_)
      have ln := z_rw_len (I := I) (w := I a) (c := c) (a := a) c.toNat 0 o
      refine ih (a + (c + 1)) _ m' (by omega) (by omega) (by omega) (fun _ => by omega) ⟨y.1, fun i q1 q2 => y.2 i (by omega) q2⟩ (fun o' e z m2 f2 => H1 o' (eun.trans e) z m2 (f.tr f2)) (fun e m2 f2 => H0 (eun.trans e) m2 (f.tr f2))
theorem z_dv {c : Int} (hc : 1 ≤ c) (h : N % (c + 1) = 0) (h0 : 0 ≤ N) : 0 + ((N / (c + 1)).toNat : Int) * (c + 1) = N := by
  have h1 := Int.mul_ediv_add_emod N (c + 1)
  have h2 : 0 ≤ N / (c + 1) := Int.ediv_nonneg h0 (by omega)
  rw [show (((N / (c + 1)).toNat : Nat) : Int) = N / (c + 1) by omega, Int.mul_comm]
  omega
theorem sp_unpredict (hO : O = 387 ∨ O = 388) (hc : 1 ≤ c ∧ c ≤ 200) (h0 : 0 ≤ N) (hN : N ≤ 8000) (hI : ∀ i, 0 ≤ i → i < N → m O i % 256 = I i)
    (H1 : ∀ o, z_pr I N c = some o → (o.length : Int) ≤ N → y_by o → ∀ m', z_fr O m m' → z_at m' O o → Q o.length m') (H0 : z_pr I N c = none → ∀ m', z_fr O m m' → Q (-1) m') : xc_fi_unpredict (d + 2) O N c m Q := by
  obtain ⟨o1, o2, o3, o4, o5, o6, o7⟩ := y_oO hO
  apply xr_fi_unpredict
  rw [if_neg (by omega), if_neg (by omega)]
  refine ⟨o2, ?_⟩
  rw [o3, if_neg (by omega), w_32_id (x := c + 1) (by omega) (by omega), w_rem_p h0 (by omega) (by omega) (by omega)]
  refine ⟨by omega, ?_⟩
  by_cases q : N % (c + 1) = 0
  · have e : z_pr I N c = z_un I c (N / (c + 1)).toNat 0 [] := if_pos q
    rw [if_pos q]
    have nil : y_by [] := fun i hi => absurd hi (by simp)
    exact sp_unpr_33 (d := d) (N := N) (I := I) (Q := Q) hO hc hN _ 0 [] m (by decide) (z_dv hc.1 q h0) (by decide) (fun z => absurd z (by decide)) ⟨fun i hi => absurd hi (by simp), hI⟩ (fun o' y z m' f w => H1 o' (e.trans y) z (z_un_by _ _ _ _ nil y) m' f w) (fun y m' f => H0 (e.trans y) m' f)
  · rw [if_neg q]
    exact H0 (if_neg q) m z_fr.rf
-- the reference
theorem r_unpr_57 {r : Int} (hc : 1 ≤ c ∧ c ≤ 200) (hN : N ≤ 8000) (ew : 0 ≤ w ∧ w ≤ 4) (er : r * (c + 1) = a) (r0 : 0 ≤ r) : ∀ (k : Nat) (i : Int) (o : List Int) (n : w_M), 0 ≤ i → i + k = c → 0 ≤ a → a + c + 1 ≤ N → (o.length : Int) ≤ a + i → i ≤ o.length → (0 < a → c + i ≤ o.length) → y_rin n N I → (∀ j, -128 ≤ n 442 j ∧ n 442 j < 128) → n 428 38 = o.length → z_at n 443 o →
    (∀ n', y_ofr n n' → n' 428 38 = (z_rw I w c a k i o).length → z_at n' 443 (z_rw I w c a k i o) → xp_m_unpredict_20 (d + 2) c (w_32 (r + 1)) n' Q) → xp_m_unpredict_57 (d + 2) c r w i n Q := by
  intro k
  have ar : 0 < a ↔ 0 < r := by
    constructor
    · intro z
      rcases Int.lt_or_le 0 r with y | y
      · exact y
      · have : r = 0 := by omega
        rw [this, Int.zero_mul] at er
        omega
    · intro z
      have := Int.mul_pos z (show 0 < c + 1 by omega)
      omega
  induction k with
  | zero =>
    intro i o n i0 hi a0 haN hl hl2 hl3 hin hr h38 hat H
    apply xr_m_unpredict_57
    rw [if_neg (by omega)]
    exact H n y_ofr.rf h38 hat
  | succ k ih =>
    intro i o n i0 hi a0 haN hl hl2 hl3 hin hr h38 hat H
    obtain ⟨b1, b2, b3, b4⟩ := id hin
    obtain ⟨K, hK⟩ : ∃ K : Int, K = o.length := ⟨_, rfl⟩
    rw [← hK] at hl hl2 hl3 h38
    have ra : r ≤ a := by
      have := Int.mul_le_mul_of_nonneg_left (show (1 : Int) ≤ c + 1 by omega) r0
      omega
    have g1 : ∀ j : Int, 0 ≤ j → j < K → n 443 j = o.getD j.toNat 0 := fun j q1 q2 => z_get hat q1 (by omega)
    have ex0 : w_32 (c + 1) = c + 1 := w_32_id (by omega) (by omega)
    have exr : w_32 (r * (c + 1)) = a := by rw [er]; exact w_32_id (by omega) (by omega)
    have ex1 : w_32 (a + 1) = a + 1 := w_32_id (by omega) (by omega)
    have ex2 : w_32 (a + 1 + i) = a + 1 + i := w_32_id (by omega) (by omega)
    have ex3 : w_32 (K + 1) = K + 1 := w_32_id (by omega) (by omega)
    have ex4 : w_32 (i + 1) = i + 1 := w_32_id (by omega) (by omega)
    have ex5 : w_32 (K - 1) = K - 1 := w_32_id (by omega) (by omega)
    have ex6 : w_32 (K - c) = K - c := w_32_id (by omega) (by omega)
    have ex7 : w_32 (K - c - 1) = K - c - 1 := w_32_id (by omega) (by omega)
    have rb : ∀ x : Int, 0 ≤ x % 256 ∧ x % 256 < 256 := fun x => by omega
    have hbx := hr (a + 1 + i)
    have e2 := b4 (a + 1 + i) (by omega) (by omega)
    have zr : ∀ (l8 l9 cc : Int), (0 ≤ l8 ∧ l8 < 256) → (0 ≤ l9 ∧ l9 < 256) → (0 ≤ cc ∧ cc < 256) → 0 ≤ z_g w l8 l9 cc ∧ z_g w l8 l9 cc < 256 := by
      intro l8 l9 cc r1 r2 r3
      unfold z_g
      repeat' split
      all_goals omega
    -- behind the guess
    have fin : ∀ (l8 l9 cc : Int), (0 ≤ l8 ∧ l8 < 256) → (0 ≤ l9 ∧ l9 < 256) → (0 ≤ cc ∧ cc < 256) → z_ce I w c a i o = w_8 (I (a + 1 + i) + z_g w l8 l9 cc) → xp_m_unpredict_198 (d + 2) c r w i (z_g w l8 l9 cc) n Q := by
      intro l8 l9 cc r1 r2 r3 ec
      have z := zr l8 l9 cc r1 r2 r3
      apply xr_m_unpredict_198
      rw [ex0, exr, ex1, ex2, h38, ex3, ex4]
      refine ⟨by omega, by omega, ?_⟩
      rw [w_32_id (x := n 442 (a + 1 + i) + z_g w l8 l9 cc) (by omega) (by omega), w_8_8]
      have ev2 : w_8 (n 442 (a + 1 + i) + z_g w l8 l9 cc) = z_ce I w c a i o := by
        rw [ec]
        unfold w_8
        rw [Int.bmod_def, Int.bmod_def]
        have : (n 442 (a + 1 + i) + z_g w l8 l9 cc) % 256 = (I (a + 1 + i) + z_g w l8 l9 cc) % 256 := by omega
        rw [show ((256 : Nat) : Int) = 256 from rfl, this]
      rw [ev2]
      have len1 := t_len o (z_ce I w c a i o)
      rw [← hK] at len1
      have f1 : y_ofr n (w_up (w_up n 443 K (z_ce I w c a i o)) 428 38 (K + 1)) := fun i j q1 q2 => by unfold w_up; rw [if_neg (by omega), if_neg (by omega)]
      refine ih (i + 1) (o ++ [z_ce I w c a i o]) _ (by omega) (by omega) a0 haN (by omega) (by omega) (fun z => by have := hl3 z; omega) ⟨by rw [f1 _ _ (by omega) (by omega)]; exact b1, b2, b3, fun i q1 q2 => by rw [f1 _ _ (by omega) (by omega)]; exact b4 i q1 q2⟩ (fun j => by rw [f1 _ _ (by omega) (by omega)]; exact hr j) (by rw [w_up_eq, len1]) (fun j hj => ?_) (fun n' f y z => H n' (f1.tr f) y z)
      rw [w_up_ne (by decide), hK]
      exact hat.app j hj
    have last : ∀ (l8 l9 cc : Int), (0 ≤ l8 ∧ l8 < 256) → (0 ≤ l9 ∧ l9 < 256) → (0 ≤ cc ∧ cc < 256) → z_ce I w c a i o = w_8 (I (a + 1 + i) + z_g w l8 l9 cc) → xp_m_unpredict_144 (d + 2) c r w i l8 l9 cc n Q := by
      intro l8 l9 cc r1 r2 r3 ec
      have f := fin l8 l9 cc r1 r2 r3 ec
      apply xr_m_unpredict_144
      by_cases w0 : w = 0
      · rw [if_pos w0]
        have e : z_g w l8 l9 cc = 0 := by rw [w0]; rfl
        rw [e] at f
        exact f
      · rw [if_neg w0]
        by_cases w1 : w = 1
        · rw [if_pos w1]
          have e : z_g w l8 l9 cc = l8 := if_pos w1
          rw [e] at f
          exact f
        · rw [if_neg w1]
          by_cases w2 : w = 2
          · rw [if_pos w2]
            have e : z_g w l8 l9 cc = l9 := (if_neg w1).trans (if_pos w2)
            rw [e] at f
            exact f
          · rw [if_neg w2]
            by_cases w3 : w = 3
            · rw [if_pos w3, w_32_id (x := l8 + l9) (by omega) (by omega), Int.tdiv_eq_ediv_of_nonneg (by omega)]
              have e : z_g w l8 l9 cc = (l8 + l9) / 2 := (if_neg w1).trans ((if_neg w2).trans (if_pos w3))
              rw [e] at f
              exact f
            · have w4 : w = 4 := by omega
              rw [if_neg w3]
              refine sp_m_paeth ?_
              have e : f_m_paeth n l8 l9 cc = z_g w l8 l9 cc := by rw [w4]; exact z_g_m r1 r2 r3
              rw [e]
              exact f
    have ez : z_ce I w c a i o = w_8 (I (a + 1 + i) + z_g w (if 0 < i then o.getD (K - 1).toNat 0 % 256 else 0) (if 0 < a then o.getD (K - c).toNat 0 % 256 else 0) (if 0 < i ∧ 0 < a then o.getD (K - c - 1).toNat 0 % 256 else 0)) := by rw [hK]; rfl
    apply xr_m_unpredict_57
    rw [if_pos (by omega)]
    by_cases q1 : 0 < i
    · rw [if_pos q1, h38, ex5]
      rw [if_pos q1] at ez
      refine ⟨by omega, ?_⟩
      apply xr_m_unpredict_87
      by_cases q2 : 0 < a
      · have k3 := hl3 q2
        have q2' := ar.mp q2
        rw [if_pos q2, if_pos ⟨q1, q2⟩] at ez
        rw [if_pos q2', h38, ex6]
        refine ⟨by omega, ?_⟩
        rw [if_pos q1, if_pos q2', ex7]
        refine ⟨by omega, ?_⟩
        rw [g1 _ (by omega) (by omega), g1 _ (by omega) (by omega), g1 _ (by omega) (by omega)]
        exact last _ _ _ (rb _) (rb _) (rb _) ez
      · have q2' : ¬ 0 < r := fun y => q2 (ar.mpr y)
        rw [if_neg q2, if_neg (fun y : 0 < i ∧ 0 < a => q2 y.2)] at ez
        rw [if_neg q2', if_pos q1, if_neg q2']
        rw [g1 _ (by omega) (by omega)]
        exact last _ _ _ (rb _) (by decide) (by decide) ez
    · rw [if_neg q1]
      rw [if_neg q1, if_neg (fun y : 0 < i ∧ 0 < a => q1 y.1)] at ez
      apply xr_m_unpredict_87
      by_cases q2 : 0 < a
      · have k3 := hl3 q2
        have q2' := ar.mp q2
        rw [if_pos q2] at ez
        rw [if_pos q2', h38, ex6]
        refine ⟨by omega, ?_⟩
        rw [if_neg q1]
        rw [g1 _ (by omega) (by omega)]
        exact last _ _ _ (by decide) (rb _) (by decide) ez
      · have q2' : ¬ 0 < r := fun y => q2 (ar.mpr y)
        rw [if_neg q2] at ez
        rw [if_neg q2', if_neg q1]
        exact last _ _ _ (by decide) (by decide) (by decide) ez
theorem r_unpr_20 (hc : 1 ≤ c ∧ c ≤ 200) (hN : N ≤ 8000) (h0 : 0 ≤ N) : ∀ (k : Nat) (r a : Int) (o : List Int) (n : w_M), 0 ≤ r → r * (c + 1) = a → a + k * (c + 1) = N → (o.length : Int) ≤ a → (0 < a → c ≤ o.length) → y_rin n N I → (∀ j, -128 ≤ n 442 j ∧ n 442 j < 128) → n 428 38 = o.length → z_at n 443 o →
    (∀ o', z_un I c k a o = some o' → (o'.length : Int) ≤ N → ∀ n', y_ofr n n' → n' 428 38 = o'.length → z_at n' 443 o' → Q 1 n') → (z_un I c k a o = none → ∀ n', y_ofr n n' → Q 0 n') → xp_m_unpredict_20 (d + 2) c r n Q := by
  intro k
  induction k with
  | zero =>
    intro r a o n r0 er ha hl hl3 hin hr h38 hat H1 H0
    have ha : a = N := by omega
    have ed : N / (c + 1) = r := by rw [← ha, ← er]; exact Int.mul_ediv_cancel _ (by omega)
    apply xr_m_unpredict_20
    rw [w_32_id (x := c + 1) (by omega) (by omega), hin.1, w_div_p h0 (by omega) (by omega) (by omega), ed, if_neg (by omega)]
    exact ⟨by omega, H1 o rfl (by omega) n y_ofr.rf h38 hat⟩
  | succ k ih =>
    intro r a o n r0 er ha hl hl3 hin hr h38 hat H1 H0
    obtain ⟨b1, b2, b3, b4⟩ := id hin
    have k0 : 0 ≤ (k : Int) * (c + 1) := Int.mul_nonneg (by omega) (by omega)
    have ek : ((k + 1 : Nat) : Int) * (c + 1) = k * (c + 1) + (c + 1) := by
      rw [show ((k + 1 : Nat) : Int) = (k : Int) + 1 by omega, Int.add_mul, Int.one_mul]
    have ed : N / (c + 1) = r + k + 1 := by
      have : N = (r + k + 1) * (c + 1) := by
        rw [Int.add_mul, Int.add_mul, Int.one_mul, er]
        omega
      rw [this]
      exact Int.mul_ediv_cancel _ (by omega)
    rw [ek] at ha
    have a0 : 0 ≤ a := by rw [← er]; exact Int.mul_nonneg r0 (by omega)
    have ra : r ≤ a := by
      have := Int.mul_le_mul_of_nonneg_left (show (1 : Int) ≤ c + 1 by omega) r0
      omega
    have eI := b4 a a0 (by omega)
    have rr := hr a
    have eun : z_un I c (k + 1) a o = if 4 < I a then none else z_un I c k (a + (c + 1)) (z_rw I (I a) c a c.toNat 0 o) := rfl
    apply xr_m_unpredict_20
    rw [w_32_id (x := c + 1) (by omega) (by omega), hin.1, w_div_p h0 (by omega) (by omega) (by omega), ed, if_pos (by omega), er, w_32_id (x := a) (by omega) (by omega)]
    refine ⟨by omega, by omega, ?_⟩
    by_cases q : 4 < I a
    · rw [if_pos q] at eun
      by_cases q2 : n 442 a < 0
      · rw [if_pos q2]
        exact H0 eun n y_ofr.rf
      · rw [if_neg q2, if_pos (by omega)]
        exact H0 eun n y_ofr.rf
    · rw [if_neg q] at eun
      have ew : n 442 a = I a := by omega
      rw [if_neg (by omega), if_neg (by omega), ew]
      refine r_unpr_57 hc hN (by omega) er r0 c.toNat 0 o n (by decide) (by omega) a0 (by omega) (by omega) (by omega) (fun z => by have := hl3 z; omega) hin hr h38 hat (fun n' f y z => ?_)
      have ln := z_rw_len (I := I) (w := I a) (c := c) (a := a) c.toNat 0 o
      rw [w_32_id (x := r + 1) (by omega) (by omega)]
      refine ih (r + 1) (a + (c + 1)) _ n' (by omega) (by rw [Int.add_mul, Int.one_mul, er]) (by omega) (by omega) (fun _ => by omega) ⟨by rw [f _ _ (by omega) (by omega)]; exact b1, b2, b3, fun i q1 q2 => by rw [f _ _ (by omega) (by omega)]; exact b4 i q1 q2⟩ (fun j => by rw [f _ _ (by omega) (by omega)]; exact hr j) y z (fun o' e z n2 f2 => H1 o' (eun.trans e) z n2 (f.tr f2)) (fun e n2 f2 => H0 (eun.trans e) n2 (f.tr f2))
theorem r_unpredict (hc : 1 ≤ c ∧ c ≤ 200) (hN : N ≤ 8000) (hin : y_rin n N I) (hr : ∀ j, -128 ≤ n 442 j ∧ n 442 j < 128)
    (H1 : ∀ o, z_pr I N c = some o → (o.length : Int) ≤ N → y_by o → ∀ n', y_ofr n n' → n' 428 38 = o.length → z_at n' 443 o → Q 1 n') (H0 : z_pr I N c = none → ∀ n', y_ofr n n' → Q 0 n') : xc_m_unpredict (d + 3) c n Q := by
  obtain ⟨b1, b2, b3, b4⟩ := id hin
  apply xr_m_unpredict
  rw [w_32_id (x := c + 1) (by omega) (by omega), b1, w_rem_p b2 (by omega) (by omega) (by omega)]
  refine ⟨by omega, ?_⟩
  by_cases q : N % (c + 1) = 0
  · have e : z_pr I N c = z_un I c (N / (c + 1)).toNat 0 [] := if_pos q
    rw [if_pos q]
    have nil : y_by [] := fun i hi => absurd hi (by simp)
    have f1 : y_ofr n (w_up n 428 38 0) := fun i j q1 q2 => by unfold w_up; rw [if_neg (by omega)]
    exact r_unpr_20 (d := d) (N := N) (I := I) (Q := Q) hc hN b2 _ 0 0 [] _ (by decide) (Int.zero_mul _) (z_dv hc.1 q b2) (by decide) (fun z => absurd z (by decide)) ⟨by rw [f1 _ _ (by omega) (by omega)]; exact b1, b2, b3, fun i q1 q2 => by rw [f1 _ _ (by omega) (by omega)]; exact b4 i q1 q2⟩ (fun j => by rw [f1 _ _ (by omega) (by omega)]; exact hr j) w_up_eq (fun i hi => absurd hi (by simp)) (fun o' y z n' f w v => H1 o' (e.trans y) z (z_un_by _ _ _ _ nil y) n' (f1.tr f) w v) (fun y n' f => H0 (e.trans y) n' (f1.tr f))
  · rw [if_neg q]
    exact H0 (if_neg q) n y_ofr.rf
/-- what was made is what is read next -/
theorem r_take2_2 (hat : z_at n 443 o) (hby : y_by o) (hl : (o.length : Int) ≤ 8000) : ∀ (k : Nat) (i : Int) (n' : w_M), 0 ≤ i → i + k = o.length → (∀ a b : Int, ¬ (a = 442) → n' a b = n a b) → (∀ j, 0 ≤ j → j < i → n' 442 j = o.getD j.toNat 0) →
    (∀ n2 : w_M, (∀ a b : Int, a ≠ 442 → ¬ (a = 428 ∧ b = 37) → n2 a b = n a b) → n2 428 37 = o.length → z_at n2 442 o → Q 0 n2) → xp_m_take2_2 d o.length i n' Q := by
  obtain ⟨K, hK⟩ : ∃ K : Int, K = o.length := ⟨_, rfl⟩
  rw [← hK]
  rw [← hK] at hl
  intro k
  induction k with
  | zero =>
    intro i n' i0 hi hf hd H
    apply xr_m_take2_2
    rw [if_neg (by omega)]
    refine H _ (fun a b q1 q2 => by unfold w_up; rw [if_neg q2]; exact hf a b q1) w_up_eq (fun j hj => ?_)
    rw [w_up_ne (by decide)]
    have := hd j (by omega) (by omega)
    rw [Int.toNat_natCast] at this
    exact this
  | succ k ih =>
    intro i n' i0 hi hf hd H
    apply xr_m_take2_2
    rw [if_pos (by omega), w_32_id (x := i + 1) (by omega) (by omega)]
    refine ⟨by omega, by omega, ?_⟩
    have e : n' 443 i = o.getD i.toNat 0 := by
      rw [hf _ _ (by decide)]
      exact z_get hat i0 (by omega)
    have eb := hby i.toNat (by omega)
    rw [e, eb]
    refine ih (i + 1) _ (by omega) (by omega) (fun a b q => by rw [w_up_ne q]; exact hf a b q) (fun j q1 q2 => ?_) H
    by_cases z : j = i
    · rw [z, w_up_eq]
    · rw [w_up_nb z]
      exact hd j q1 (by omega)
theorem r_take2 (hat : z_at n 443 o) (hby : y_by o) (hl : (o.length : Int) ≤ 8000) (H : ∀ n2 : w_M, (∀ a b : Int, a ≠ 442 → ¬ (a = 428 ∧ b = 37) → n2 a b = n a b) → n2 428 37 = o.length → z_at n2 442 o → Q 0 n2) : xc_m_take2 (d + 1) o.length n Q := by
  apply xr_m_take2
  exact r_take2_2 hat hby hl o.length 0 n (by decide) (by omega) (fun _ _ _ => rfl) (fun j q1 q2 => by omega) H
end ZP
