/-! ===== codes of given lengths: both sides make the same ===== -/
/-- how many of the first k lengths are l -/
def y_c (f : Int → Int) : Nat → Int → Int
  | 0, _ => 0
  | k + 1, l => y_c f k l + if f k = l then 1 else 0
/-- where the symbols of length l begin -/
def y_o (C : Int → Int) : Nat → Int
  | 0 => 0
  | l + 1 => y_o C l + if l = 0 then 0 else C l
/-- what is left over; below 0 at the first that is too many -/
def y_lf (C : Int → Int) : Nat → Int → Int → Int
  | 0, _, v => v
  | k + 1, l, v => if 2 * v - C l < 0 then 2 * v - C l else y_lf C k (l + 1) (2 * v - C l)
/-- the r-th symbol of length l -/
def y_n (f : Int → Int) (l r : Int) : Nat → Int
  | 0 => -1
  | k + 1 => if f k = l ∧ y_c f k l = r then k else y_n f l r k
theorem y_c_r (f : Int → Int) (l : Int) : ∀ k : Nat, 0 ≤ y_c f k l ∧ y_c f k l ≤ k := by
  intro k
  induction k with
  | zero => exact ⟨Int.le_refl _, by show (0 : Int) ≤ ((0 : Nat) : Int); decide⟩
  | succ k ih =>
    show 0 ≤ y_c f k l + (if f k = l then 1 else 0) ∧ y_c f k l + (if f k = l then 1 else 0) ≤ ((k + 1 : Nat) : Int)
    split <;> omega
theorem y_c_mono (f : Int → Int) (l : Int) {i : Nat} : ∀ {k : Nat}, i ≤ k → y_c f i l ≤ y_c f k l := by
  intro k
  induction k with
  | zero => intro h; rw [show i = 0 by omega]; exact Int.le_refl _
  | succ k ih =>
    intro h
    by_cases z : i = k + 1
    · rw [z]; exact Int.le_refl _
    · have := ih (by omega)
      show y_c f i l ≤ y_c f k l + (if f k = l then 1 else 0)
      split <;> omega
theorem y_c_lt {f : Int → Int} {l : Int} {i k : Nat} (h : i < k) (hf : f i = l) : y_c f i l < y_c f k l := by
  have h1 : y_c f (i + 1) l ≤ y_c f k l := y_c_mono f l (by omega)
  have h2 : y_c f (i + 1) l = y_c f i l + 1 := by
    show y_c f i l + (if f i = l then 1 else 0) = _
    rw [if_pos hf]
  omega
theorem y_o_add {C : Int → Int} {v : Int} : ∀ L : Nat, y_o (fun l => C l + if v = l then 1 else 0) L = y_o C L + if 1 ≤ v ∧ v < L then 1 else 0 := by
  intro L
  induction L with
  | zero => show (0 : Int) = 0 + _; rw [if_neg (by omega)]; rfl
  | succ L ih =>
    show y_o (fun l => C l + if v = l then 1 else 0) L + (if L = 0 then 0 else C L + if v = L then 1 else 0) = y_o C L + (if L = 0 then 0 else C L) + _
    rw [ih]
    by_cases z : L = 0
    · subst z
      rw [if_pos rfl, if_pos rfl, if_neg (by omega), if_neg (by omega)]
    · rw [if_neg z, if_neg z]
      by_cases w : v = L
      · rw [if_pos w, if_neg (by omega), if_pos (by omega)]; omega
      · rw [if_neg w]
        by_cases y : 1 ≤ v ∧ v < L
        · rw [if_pos y, if_pos (by omega)]; omega
        · rw [if_neg y, if_neg (by omega)]; omega
theorem y_o_tot {f : Int → Int} : ∀ k : Nat, (∀ i : Nat, i < k → 0 ≤ f i ∧ f i ≤ 15) → y_o (y_c f k) 16 + y_c f k 0 = k := by
  intro k
  induction k with
  | zero => intro _; rfl
  | succ k ih =>
    intro h
    have h1 := ih (fun i hi => h i (by omega))
    have h2 := h k (by omega)
    have e : y_c f (k + 1) = fun l => y_c f k l + if f k = l then 1 else 0 := by funext l; rfl
    rw [e, y_o_add]
    show y_o (y_c f k) 16 + (if 1 ≤ f k ∧ f k < ((16 : Nat) : Int) then 1 else 0) + (y_c f k 0 + if f k = 0 then 1 else 0) = _
    by_cases z : f k = 0
    · rw [if_pos z, if_neg (by omega)]; omega
    · rw [if_neg z, if_pos (by omega)]; omega
theorem y_o_le {C : Int → Int} (hC : ∀ l, 0 ≤ C l) {a : Nat} (ha : 1 ≤ a) : ∀ {b : Nat}, a < b → y_o C a + C a ≤ y_o C b := by
  intro b
  induction b with
  | zero => intro h; omega
  | succ b ih =>
    intro h
    have hb : y_o C (b + 1) = y_o C b + C b := by
      show y_o C b + (if b = 0 then 0 else C b) = _
      rw [if_neg (by omega)]
    rw [hb]
    by_cases z : a = b
    · rw [z]; exact Int.le_refl _
    · have := ih (by omega)
      have := hC b
      omega
theorem y_o_0 {C : Int → Int} (hC : ∀ l, 0 ≤ C l) : ∀ a : Nat, 0 ≤ y_o C a := by
  intro a
  induction a with
  | zero => exact Int.le_refl _
  | succ a ih =>
    show 0 ≤ y_o C a + (if a = 0 then 0 else C a)
    have := hC a
    split <;> omega
/-- the symbol's place -/
theorem y_pl {f : Int → Int} {n : Nat} (hf : ∀ i : Nat, i < n → 0 ≤ f i ∧ f i ≤ 15) {l r : Int} (hl : 1 ≤ l ∧ l ≤ 15) (hr : 0 ≤ r ∧ r < y_c f n l) : 0 ≤ y_o (y_c f n) l.toNat + r ∧ y_o (y_c f n) l.toNat + r < n := by
  have h1 := y_o_tot n hf
  have h2 := y_o_0 (C := y_c f n) (fun l => (y_c_r f l n).1) l.toNat
  have h3 := y_o_le (C := y_c f n) (fun l => (y_c_r f l n).1) (a := l.toNat) (b := 16) (by omega) (by omega)
  rw [show ((l.toNat : Nat) : Int) = l by omega] at h3
  have h4 := (y_c_r f 0 n).1
  omega
theorem y_n_v {f : Int → Int} {l r : Int} {i : Nat} (hi : f i = l ∧ y_c f i l = r) : ∀ {k : Nat}, i < k → y_n f l r k = i := by
  intro k
  induction k with
  | zero => intro h; omega
  | succ k ih =>
    intro h
    show (if f k = l ∧ y_c f k l = r then (k : Int) else y_n f l r k) = i
    by_cases z : i = k
    · subst z; rw [if_pos hi]
    · have hlt := y_c_lt (l := l) (show i < k by omega) hi.1
      rw [if_neg (by omega)]
      exact ih (by omega)
theorem y_n_ex {f : Int → Int} {l r : Int} : ∀ {k : Nat}, 0 ≤ r → r < y_c f k l → ∃ i : Nat, i < k ∧ f i = l ∧ y_c f i l = r := by
  intro k
  induction k with
  | zero => intro h0 h1; have h1 : r < 0 := h1; omega
  | succ k ih =>
    intro h0 h1
    have h1 : r < y_c f k l + (if f k = l then 1 else 0) := h1
    by_cases z : r < y_c f k l
    · obtain ⟨i, a, b⟩ := ih h0 z
      exact ⟨i, by omega, b⟩
    · by_cases w : f k = l
      · rw [if_pos w] at h1
        exact ⟨k, by omega, w, by omega⟩
      · rw [if_neg w] at h1
        omega
/-- counts, symbols stand -/
def y_cn (m : w_M) (c : Int) (f : Int → Int) (n : Nat) : Prop := ∀ l, 0 ≤ l → l ≤ 15 → m c l = y_c f n l
def y_sy (m : w_M) (s : Int) (f : Int → Int) (n k : Nat) : Prop := ∀ i : Nat, i < k → 1 ≤ f i → m s (y_o (y_c f n) (f i).toNat + y_c f i (f i)) = i
/-- one symbol more -/
theorem y_sy_up {m : w_M} {s : Int} {f : Int → Int} {n k : Nat} (hf : ∀ i : Nat, i < n → 0 ≤ f i ∧ f i ≤ 15) (hk : k < n) (h : y_sy m s f n k) (h1 : 1 ≤ f k) : y_sy (w_up m s (y_o (y_c f n) (f k).toNat + y_c f k (f k)) k) s f n (k + 1) := by
  intro i hi h1i
  by_cases z : i = k
  · subst z; rw [w_up_eq]
  · have hi' : i < k := by omega
    rw [w_up_nb]
    · exact h i hi' h1i
    · intro e
      have a1 := hf i (by omega)
      have a2 := hf k hk
      have c1 := y_c_lt (l := f i) (show i < n by omega) rfl
      have c2 := y_c_lt (l := f k) hk rfl
      have c3 := (y_c_r f (f i) i).1
      have c4 := (y_c_r f (f k) k).1
      have hC : ∀ l, 0 ≤ y_c f n l := fun l => (y_c_r f l n).1
      rcases Int.lt_trichotomy (f i) (f k) with w | w | w
      · have := y_o_le hC (a := (f i).toNat) (b := (f k).toNat) (by omega) (by omega)
        rw [show (((f i).toNat : Nat) : Int) = f i by omega] at this
        omega
      · have := y_c_lt (l := f k) hi' w
        rw [w] at e
        omega
      · have := y_o_le hC (a := (f k).toNat) (b := (f i).toNat) (by omega) (by omega)
        rw [show (((f k).toNat : Nat) : Int) = f k by omega] at this
        omega
theorem y_lf_r {C : Int → Int} (hC : ∀ l, 0 ≤ C l ∧ C l ≤ 320) : ∀ (k : Nat) (l v : Int), 0 ≤ v → v * ((2 ^ k : Nat) : Int) ≤ 32768 → -320 ≤ y_lf C k l v ∧ y_lf C k l v ≤ 32768 := by
  intro k
  induction k with
  | zero => intro l v h0 h1; have h1 : v * 1 ≤ 32768 := h1; show -320 ≤ v ∧ v ≤ 32768; omega
  | succ k ih =>
    intro l v h0 h1
    have hc := hC l
    have e : v * ((2 ^ (k + 1) : Nat) : Int) = 2 * v * ((2 ^ k : Nat) : Int) := by
      rw [Nat.pow_succ, Int.natCast_mul, Int.mul_comm ((2 ^ k : Nat) : Int), ← Int.mul_assoc, Int.mul_comm v]
      rfl
    have hp : (1 : Int) ≤ ((2 ^ k : Nat) : Int) := by have := Nat.two_pow_pos k; omega
    have h2 : 2 * v ≤ 2 * v * ((2 ^ k : Nat) : Int) := by
      have := Int.mul_le_mul_of_nonneg_left hp (show 0 ≤ 2 * v by omega)
      omega
    show -320 ≤ (if 2 * v - C l < 0 then 2 * v - C l else y_lf C k (l + 1) (2 * v - C l)) ∧ (if 2 * v - C l < 0 then 2 * v - C l else y_lf C k (l + 1) (2 * v - C l)) ≤ 32768
    split
    · omega
    · refine ih (l + 1) (2 * v - C l) (by omega) ?_
      have := Int.mul_le_mul_of_nonneg_right (show 2 * v - C l ≤ 2 * v by omega) (show 0 ≤ ((2 ^ k : Nat) : Int) by omega)
      omega
section YC
variable {d : Nat} {m n : w_M} {Q : Int → w_M → Prop} {f : Int → Int}
/-- a row is filled -/
theorem sp_fill {S : Nat → Prop} {a v : Int} {N : Nat} (h0 : 0 ≤ a) (hA : w_sh0 a.toNat = some (.inr (0, N))) (hN : N < 100000) (hw : w_wr (w_G0 S) a.toNat) (hQ : ∀ m', (∀ i j : Int, ¬ (i = a ∧ 0 ≤ j ∧ j < N) → m' i j = m i j) → (∀ j, 0 ≤ j → j < (N : Int) → m' a j = v) → Q 0 m') : xc_ja_fill S (d + 1) a v m Q := by
  have hln : w_ln a = N := w_ln_eq hA
  have hI : w_isA 0 a := ⟨N, hA⟩
  apply xr_ja_fill
  refine ⟨⟨0, N, hA, by decide, by omega⟩, ?_⟩
  rw [hln]
  have loop : ∀ (k : Nat) (i : Int) (m' : w_M), 0 ≤ i → i + k = N → (∀ p j : Int, ¬ (p = a ∧ 0 ≤ j ∧ j < N) → m' p j = m p j) → (∀ j, 0 ≤ j → j < i → m' a j = v) → xp_ja_fill_5 S d a v i N m' Q := by
    intro k
    induction k with
    | zero =>
      intro i m' i0 i1 h1 h2
      apply xr_ja_fill_5
      rw [if_neg (by omega)]
      exact hQ m' h1 (fun j j0 j1 => h2 j j0 (by omega))
    | succ k ih =>
      intro i m' i0 i1 h1 h2
      apply xr_ja_fill_5
      rw [if_pos (by omega), hln, w_32_id (x := i + 1) (by omega) (by omega)]
      refine ⟨hI, hw, by omega, ih (i + 1) _ (by omega) (by omega) (fun p j q => ?_) (fun j j0 j1 => ?_)⟩
      · unfold w_up
        rw [if_neg (fun z => q ⟨z.1, by omega, by omega⟩)]
        exact h1 p j q
      · by_cases z : j = i
        · rw [z, w_up_eq]
        · rw [w_up_nb z]; exact h2 j j0 (by omega)
  exact loop N 0 m (by decide) (by omega) (fun _ _ _ => rfl) (fun j j0 j1 => by omega)
/-- the class's rows of counts and symbols -/
def y_ar (c s : Int) (n : Nat) : Prop := (c = 381 ∧ s = 382 ∧ n ≤ 288) ∨ (c = 383 ∧ s = 384 ∧ n ≤ 32)
def y_rr (c s : Int) (n : Nat) : Prop := (c = 445 ∧ s = 446 ∧ n ≤ 288) ∨ (c = 447 ∧ s = 448 ∧ n ≤ 32)
theorem y_ar_c {c s : Int} {n : Nat} (h : y_ar c s n) : w_sh0 c.toNat = some (.inr (0, 16)) ∧ w_isA 0 c ∧ w_ln c = 16 ∧ w_wr (w_G0 sC) c.toNat ∧ 0 ≤ c ∧ w_isR s ∧ w_isA 0 s ∧ (n : Int) ≤ w_ln s ∧ w_wr (w_G0 sC) s.toNat ∧ w_ln s ≤ 288 := by
  rcases h with ⟨rfl, rfl, h⟩ | ⟨rfl, rfl, h⟩
  · exact ⟨rfl, ⟨16, rfl⟩, w_ln_eq s0_381, w_EC (by decide), by decide, ⟨0, 288, s0_382, by decide, by decide⟩, ⟨288, s0_382⟩, by rw [w_ln_eq s0_382]; omega, w_EC (by decide), by rw [w_ln_eq s0_382]; decide⟩
  · exact ⟨rfl, ⟨16, rfl⟩, w_ln_eq s0_383, w_EC (by decide), by decide, ⟨0, 32, s0_384, by decide, by decide⟩, ⟨32, s0_384⟩, by rw [w_ln_eq s0_384]; omega, w_EC (by decide), by rw [w_ln_eq s0_384]; decide⟩
theorem y_rr_c {c s : Int} {n : Nat} (h : y_rr c s n) : w_sh0 c.toNat = some (.inr (0, 16)) ∧ w_isA 0 c ∧ w_ln c = 16 ∧ w_wr (w_G0 sM) c.toNat ∧ 0 ≤ c ∧ w_isR s ∧ w_isA 0 s ∧ (n : Int) ≤ w_ln s ∧ w_wr (w_G0 sM) s.toNat ∧ w_ln s ≤ 288 := by
  rcases h with ⟨rfl, rfl, h⟩ | ⟨rfl, rfl, h⟩
  · exact ⟨rfl, ⟨16, rfl⟩, w_ln_eq s0_445, w_EM (by decide), by decide, ⟨0, 288, s0_446, by decide, by decide⟩, ⟨288, s0_446⟩, by rw [w_ln_eq s0_446]; omega, w_EM (by decide), by rw [w_ln_eq s0_446]; decide⟩
  · exact ⟨rfl, ⟨16, rfl⟩, w_ln_eq s0_447, w_EM (by decide), by decide, ⟨0, 32, s0_448, by decide, by decide⟩, ⟨32, s0_448⟩, by rw [w_ln_eq s0_448]; omega, w_EM (by decide), by rw [w_ln_eq s0_448]; decide⟩
/-- what making codes changes: the class, the reference -/
def y_bf (c s : Int) (m m' : w_M) : Prop := ∀ i j : Int, i ≠ c → i ≠ s → i ≠ 385 → m' i j = m i j
def y_rf (c s : Int) (n n' : w_M) : Prop := ∀ i j : Int, i ≠ c → i ≠ s → i ≠ 449 → n' i j = n i j
theorem y_o_s {C : Int → Int} {l : Int} (h : 1 ≤ l) : y_o C (l + 1).toNat = y_o C l.toNat + C l := by
  rw [show (l + 1).toNat = l.toNat + 1 by omega]
  show y_o C l.toNat + (if l.toNat = 0 then 0 else C l.toNat) = _
  rw [if_neg (by omega), show ((l.toNat : Nat) : Int) = l by omega]
theorem y_lf_s {C : Int → Int} {l v : Int} (hl : l ≤ 15) : y_lf C (16 - l).toNat l v = if 2 * v - C l < 0 then 2 * v - C l else y_lf C (15 - l).toNat (l + 1) (2 * v - C l) := by
  rw [show (16 - l).toNat = (15 - l).toNat + 1 by omega]
  rfl
theorem y_v_le {v : Int} {k : Nat} (h : v * ((2 ^ k : Nat) : Int) ≤ 32768) (h0 : 0 ≤ v) : v ≤ 32768 := by
  have hp : (1 : Int) ≤ ((2 ^ k : Nat) : Int) := by have := Nat.two_pow_pos k; omega
  have := Int.mul_le_mul_of_nonneg_left hp h0
  omega
theorem y_v_s {C : Int → Int} {v l : Int} (hC : 0 ≤ C l) (hl : l ≤ 15) (h0 : 0 ≤ v) (h : v * ((2 ^ (16 - l).toNat : Nat) : Int) ≤ 32768) : (2 * v - C l) * ((2 ^ (15 - l).toNat : Nat) : Int) ≤ 32768 := by
  rw [show (16 - l).toNat = (15 - l).toNat + 1 by omega, Nat.pow_succ, Int.natCast_mul, Int.mul_comm ((2 ^ (15 - l).toNat : Nat) : Int), ← Int.mul_assoc] at h
  have hp : (0 : Int) ≤ ((2 ^ (15 - l).toNat : Nat) : Int) := Int.natCast_nonneg _
  have := Int.mul_le_mul_of_nonneg_right (show 2 * v - C l ≤ v * ((2 : Nat) : Int) by omega) hp
  omega
theorem sp_in_build {c s from' : Int} {k : Nat} (ha : y_ar c s k) (h0 : 0 ≤ from' ∧ from' + k ≤ 320) (hf : ∀ i : Nat, i < k → m 380 (from' + i) = f i ∧ 0 ≤ f i ∧ f i ≤ 15)
    (hQ : ∀ m', y_bf c s m m' → y_cn m' c f k → (0 ≤ y_lf (y_c f k) 15 1 1 → y_sy m' s f k k) → Q (y_lf (y_c f k) 15 1 1) m') : xc_in_build (d + 2) c s from' k m Q := by
  obtain ⟨a1, a2, a3, a4, a5, a6, a7, a8, a9, a10⟩ := y_ar_c ha
  have cs : c ≠ s ∧ c ≠ 380 ∧ s ≠ 380 ∧ c ≠ 385 ∧ s ≠ 385 := by rcases ha with ⟨rfl, rfl, _⟩ | ⟨rfl, rfl, _⟩ <;> decide
  have hk : k ≤ 288 := by rcases ha with ⟨_, _, h⟩ | ⟨_, _, h⟩ <;> omega
  have hf' : ∀ i : Nat, i < k → 0 ≤ f i ∧ f i ≤ 15 := fun i hi => (hf i hi).2
  have hC : ∀ l, 0 ≤ y_c f k l := fun l => (y_c_r f l k).1
  -- the symbols
  have l3 : ∀ (j i : Nat) (v : Int) (m' : w_M), i + j = k → y_bf c s m m' → y_cn m' c f k → (∀ l, 1 ≤ l → l ≤ 15 → m' 385 l = y_o (y_c f k) l.toNat + y_c f i l) → y_sy m' s f k i → (∀ m2, y_bf c s m m2 → y_cn m2 c f k → y_sy m2 s f k k → Q v m2) → xp_in_build_115 (d + 1) s from' k v i m' Q := by
    intro j
    induction j with
    | zero =>
      intro i v m' hi h1 h2 h3 h4 hq
      have : i = k := by omega
      subst this
      apply xr_in_build_115
      rw [if_neg (by omega)]
      exact hq m' h1 h2 h4
    | succ j ih =>
      intro i v m' hi h1 h2 h3 h4 hq
      obtain ⟨e1, e2, e3⟩ := hf i (by omega)
      apply xr_in_build_115
      have e4 : m' 380 (from' + i) % 16 = f i := by rw [h1 380 _ (by omega) (by omega) (by decide), e1]; omega
      rw [if_pos (by omega), w_32_id (x := from' + i) (by omega) (by omega), w_32_id (x := (i : Int) + 1) (by omega) (by omega), e4]
      refine ⟨by omega, ?_⟩
      rw [show ((i : Int) + 1) = ((i + 1 : Nat) : Int) by omega]
      by_cases z : f i = 0
      · rw [if_pos z]
        refine ih (i + 1) v m' (by omega) h1 h2 (fun l q1 q2 => ?_) (fun p hp h1p => ?_) hq
        · rw [h3 l q1 q2]
          show _ = _ + (y_c f i l + if f i = l then 1 else 0)
          rw [if_neg (by omega)]; omega
        · by_cases w : p = i
          · rw [w] at h1p; omega
          · exact h4 p (by omega) h1p
      · rw [if_neg z]
        have pl := y_pl hf' (l := f i) (r := y_c f i (f i)) ⟨by omega, e3⟩ ⟨(y_c_r f _ i).1, y_c_lt (by omega) rfl⟩
        have e5 := h3 (f i) (by omega) e3
        refine ⟨by omega, a6, ?_⟩
        rw [e5, if_pos (by omega)]
        refine ⟨by omega, a7, a9, by omega, by omega, by omega, ?_⟩
        rw [w_up_ne (by omega), e5]
        have := y_c_r f (f i) i
        rw [w_32_id (by omega) (by omega)]
        have up := y_sy_up hf' (show i < k by omega) h4 (by omega)
        refine ih (i + 1) v _ (by omega) (fun p q w1 w2 w3 => ?_) (fun l q1 q2 => ?_) (fun l q1 q2 => ?_) (fun p hp h1p => ?_) hq
        · rw [w_up_ne w3, w_up_ne w2]; exact h1 p q w1 w2 w3
        · rw [w_up_ne cs.2.2.2.1, w_up_ne cs.1]; exact h2 l q1 q2
        · have e6 : y_c f (i + 1) l = y_c f i l + if f i = l then 1 else 0 := rfl
          rw [e6]
          by_cases w : l = f i
          · rw [w, w_up_eq, if_pos rfl]; omega
          · rw [w_up_nb w, w_up_ne (by omega), h3 l q1 q2, if_neg (by omega)]; omega
        · rw [w_up_ne cs.2.2.2.2]; exact up p hp h1p
  -- what is left over, and where the symbols of a length begin
  have l2 : ∀ (j : Nat) (l v : Int) (m' : w_M), 1 ≤ l → l + j = 16 → 0 ≤ v → v * ((2 ^ (16 - l).toNat : Nat) : Int) ≤ 32768 → y_bf c s m m' → y_cn m' c f k → (∀ p, 1 ≤ p → p ≤ l → p ≤ 15 → m' 385 p = y_o (y_c f k) p.toNat) → (∀ m2, y_bf c s m m2 → y_cn m2 c f k → (0 ≤ y_lf (y_c f k) (16 - l).toNat l v → y_sy m2 s f k k) → Q (y_lf (y_c f k) (16 - l).toNat l v) m2) → xp_in_build_52 (d + 1) c s from' k v l m' Q := by
    intro j
    induction j with
    | zero =>
      intro l v m' q1 q2 q3 q4 h1 h2 h3 hq
      apply xr_in_build_52
      rw [if_pos (by omega)]
      have el : y_lf (y_c f k) (16 - l).toNat l v = v := by rw [show (16 - l).toNat = 0 by omega]; rfl
      rw [el] at hq
      exact l3 k 0 v m' (by omega) h1 h2 (fun p p1 p2 => by rw [h3 p p1 (by omega) p2]; show _ = _ + 0; omega) (fun p hp => by omega) (fun m2 w1 w2 w3 => hq m2 w1 w2 (fun _ => w3))
    | succ j ih =>
      intro l v m' q1 q2 q3 q4 h1 h2 h3 hq
      have hcl := y_c_r f l k
      have hv := y_v_le q4 q3
      apply xr_in_build_52
      rw [if_neg (by omega)]
      refine ⟨a2, by omega, ?_⟩
      rw [h2 l (by omega) (by omega), w_32_id (x := v * 2) (by omega) (by omega), w_32_id (x := v * 2 - y_c f k l) (by omega) (by omega), show v * 2 - y_c f k l = 2 * v - y_c f k l by omega]
      rw [y_lf_s (by omega)] at hq
      by_cases z : 2 * v - y_c f k l < 0
      · rw [if_pos z]
        rw [if_pos z] at hq
        exact hq m' h1 h2 (fun w => by omega)
      · rw [if_neg z]
        rw [if_neg z] at hq
        have vs := y_v_s (C := y_c f k) hcl.1 (by omega) q3 q4
        have eq1 : (15 - l).toNat = (16 - (l + 1)).toNat := by omega
        rw [eq1] at hq vs
        by_cases w : l < 15
        · rw [if_pos w, w_32_id (x := l + 1) (by omega) (by omega)]
          refine ⟨by omega, a2, by omega, by omega, ?_⟩
          have ho := y_o_s (C := y_c f k) q1
          have ho2 := y_o_le hC (a := l.toNat) (b := 16) (by omega) (by omega)
          have ho3 := y_o_0 hC l.toNat
          have ho4 := y_o_tot k hf'
          have ho5 := (y_c_r f 0 k).1
          rw [show ((l.toNat : Nat) : Int) = l by omega] at ho2
          rw [h3 l q1 (Int.le_refl _) (by omega), w_32_id (x := y_o (y_c f k) l.toNat + y_c f k l) (by omega) (by omega)]
          refine ih (l + 1) _ _ (by omega) (by omega) (by omega) vs (fun p q w1 w2 w3 => ?_) (fun p p1 p2 => ?_) (fun p p1 p2 p3 => ?_) hq
          · rw [w_up_ne w3]; exact h1 p q w1 w2 w3
          · rw [w_up_ne cs.2.2.2.1]; exact h2 p p1 p2
          · by_cases y : p = l + 1
            · rw [y, w_up_eq, ho]
            · rw [w_up_nb y]; exact h3 p p1 (by omega) p3
        · rw [if_neg w, w_32_id (x := l + 1) (by omega) (by omega)]
          exact ih (l + 1) _ m' (by omega) (by omega) (by omega) vs h1 h2 (fun p p1 p2 p3 => h3 p p1 (by omega) p3) hq
  -- the counts
  have l1 : ∀ (j i : Nat) (m' : w_M), i + j = k → y_bf c s m m' → y_cn m' c f i → xp_in_build_8 (d + 1) c s from' k i m' Q := by
    intro j
    induction j with
    | zero =>
      intro i m' hi h1 h2
      have : i = k := by omega
      subst this
      apply xr_in_build_8
      rw [if_neg (by omega)]
      refine l2 15 1 1 _ (by decide) (by decide) (by decide) (by decide) (fun p q w1 w2 w3 => ?_) (fun p p1 p2 => ?_) (fun p p1 p2 p3 => ?_) hQ
      · rw [w_up_ne w3]; exact h1 p q w1 w2 w3
      · rw [w_up_ne cs.2.2.2.1]; exact h2 p p1 p2
      · rw [show p = 1 by omega, w_up_eq]; rfl
    | succ j ih =>
      intro i m' hi h1 h2
      obtain ⟨e1, e2, e3⟩ := hf i (by omega)
      apply xr_in_build_8
      have e4 : m' 380 (from' + i) % 16 = f i := by rw [h1 380 _ (by omega) (by omega) (by decide), e1]; omega
      rw [if_pos (by omega), w_32_id (x := from' + i) (by omega) (by omega), w_32_id (x := (i : Int) + 1) (by omega) (by omega), e4]
      have hci := y_c_r f (f i) i
      rw [h2 (f i) e2 e3, w_32_id (x := y_c f i (f i) + 1) (by omega) (by omega), show ((i : Int) + 1) = ((i + 1 : Nat) : Int) by omega]
      refine ⟨by omega, a2, by omega, a2, a4, by omega, ih (i + 1) _ (by omega) (fun p q w1 w2 w3 => ?_) (fun p p1 p2 => ?_)⟩
      · rw [w_up_ne w1]; exact h1 p q w1 w2 w3
      · show _ = y_c f i p + if f i = p then 1 else 0
        by_cases z : p = f i
        · rw [z, w_up_eq, if_pos rfl]
        · rw [w_up_nb z, h2 p p1 p2, if_neg (by omega)]; omega
  apply xr_in_build
  refine sp_fill (N := 16) a5 a1 (by decide) a4 (fun m' h1 h2 => ?_)
  exact l1 k 0 m' (by omega) (fun p q w1 _ _ => h1 p q (fun z => w1 z.1)) (fun l q1 q2 => h2 l q1 (by omega))
/-- the reference's -/
theorem r_build {c s from' : Int} {k : Nat} (ha : y_rr c s k) (h0 : 0 ≤ from' ∧ from' + k ≤ 320) (hf : ∀ i : Nat, i < k → n 444 (from' + i) = f i ∧ 0 ≤ f i ∧ f i ≤ 15)
    (hQ : ∀ n', y_rf c s n n' → y_cn n' c f k → (0 ≤ y_lf (y_c f k) 15 1 1 → y_sy n' s f k k) → Q (y_lf (y_c f k) 15 1 1) n') : xc_m_build (d + 1) from' k c s n Q := by
  obtain ⟨a1, a2, a3, a4, a5, a6, a7, a8, a9, a10⟩ := y_rr_c ha
  have cs : c ≠ s ∧ c ≠ 444 ∧ s ≠ 444 ∧ c ≠ 449 ∧ s ≠ 449 := by rcases ha with ⟨rfl, rfl, _⟩ | ⟨rfl, rfl, _⟩ <;> decide
  have hk : k ≤ 288 := by rcases ha with ⟨_, _, h⟩ | ⟨_, _, h⟩ <;> omega
  have hf' : ∀ i : Nat, i < k → 0 ≤ f i ∧ f i ≤ 15 := fun i hi => (hf i hi).2
  have hC : ∀ l, 0 ≤ y_c f k l := fun l => (y_c_r f l k).1
  have l4 : ∀ (j i : Nat) (v : Int) (m' : w_M), i + j = k → y_rf c s n m' → y_cn m' c f k → (∀ l, 1 ≤ l → l ≤ 15 → m' 449 l = y_o (y_c f k) l.toNat + y_c f i l) → y_sy m' s f k i → (∀ m2, y_rf c s n m2 → y_cn m2 c f k → y_sy m2 s f k k → Q v m2) → xp_m_build_136 d from' k s v i m' Q := by
    intro j
    induction j with
    | zero =>
      intro i v m' hi h1 h2 h3 h4 hq
      have : i = k := by omega
      subst this
      apply xr_m_build_136
      rw [if_neg (by omega)]
      exact hq m' h1 h2 h4
    | succ j ih =>
      intro i v m' hi h1 h2 h3 h4 hq
      obtain ⟨e1, e2, e3⟩ := hf i (by omega)
      apply xr_m_build_136
      have e4 : m' 444 (from' + i) = f i := by rw [h1 444 _ (by omega) (by omega) (by decide), e1]
      rw [if_pos (by omega), w_32_id (x := from' + i) (by omega) (by omega), w_32_id (x := (i : Int) + 1) (by omega) (by omega), e4]
      refine ⟨by omega, ?_⟩
      rw [show ((i : Int) + 1) = ((i + 1 : Nat) : Int) by omega]
      by_cases z : 0 < f i
      · rw [if_pos z]
        have pl := y_pl hf' (l := f i) (r := y_c f i (f i)) ⟨by omega, e3⟩ ⟨(y_c_r f _ i).1, y_c_lt (by omega) rfl⟩
        have e5 := h3 (f i) (by omega) e3
        rw [e5]
        refine ⟨by omega, a7, a9, by omega, by omega, by omega, ?_⟩
        rw [w_up_ne (by omega), e5]
        have := y_c_r f (f i) i
        rw [w_32_id (by omega) (by omega)]
        have up := y_sy_up hf' (show i < k by omega) h4 (by omega)
        refine ih (i + 1) v _ (by omega) (fun p q w1 w2 w3 => ?_) (fun l q1 q2 => ?_) (fun l q1 q2 => ?_) (fun p hp h1p => ?_) hq
        · rw [w_up_ne w3, w_up_ne w2]; exact h1 p q w1 w2 w3
        · rw [w_up_ne cs.2.2.2.1, w_up_ne cs.1]; exact h2 l q1 q2
        · have e6 : y_c f (i + 1) l = y_c f i l + if f i = l then 1 else 0 := rfl
          rw [e6]
          by_cases w : l = f i
          · rw [w, w_up_eq, if_pos rfl]; omega
          · rw [w_up_nb w, w_up_ne (by omega), h3 l q1 q2, if_neg (by omega)]; omega
        · rw [w_up_ne cs.2.2.2.2]; exact up p hp h1p
      · rw [if_neg z]
        refine ih (i + 1) v m' (by omega) h1 h2 (fun l q1 q2 => ?_) (fun p hp h1p => ?_) hq
        · rw [h3 l q1 q2]
          show _ = _ + (y_c f i l + if f i = l then 1 else 0)
          rw [if_neg (by omega)]; omega
        · by_cases w : p = i
          · rw [w] at h1p; omega
          · exact h4 p (by omega) h1p
  have l3 : ∀ (j : Nat) (l v : Int) (m' : w_M), 1 ≤ l → l + j = 15 → y_rf c s n m' → y_cn m' c f k → (∀ p, 1 ≤ p → p ≤ l → m' 449 p = y_o (y_c f k) p.toNat) → (∀ m2, y_rf c s n m2 → y_cn m2 c f k → y_sy m2 s f k k → Q v m2) → xp_m_build_99 d from' k c s v l m' Q := by
    intro j
    induction j with
    | zero =>
      intro l v m' q1 q2 h1 h2 h3 hq
      apply xr_m_build_99
      rw [if_neg (by omega)]
      exact l4 k 0 v m' (by omega) h1 h2 (fun p p1 p2 => by rw [h3 p p1 (by omega)]; show _ = _ + 0; omega) (fun p hp => by omega) hq
    | succ j ih =>
      intro l v m' q1 q2 h1 h2 h3 hq
      have hcl := y_c_r f l k
      have ho := y_o_s (C := y_c f k) q1
      have ho2 := y_o_le hC (a := l.toNat) (b := 16) (by omega) (by omega)
      have ho3 := y_o_0 hC l.toNat
      have ho4 := y_o_tot k hf'
      have ho5 := (y_c_r f 0 k).1
      rw [show ((l.toNat : Nat) : Int) = l by omega] at ho2
      apply xr_m_build_99
      rw [if_pos (by omega), w_32_id (x := l + 1) (by omega) (by omega), h3 l q1 (Int.le_refl _), h2 l (by omega) (by omega), w_32_id (x := y_o (y_c f k) l.toNat + y_c f k l) (by omega) (by omega)]
      refine ⟨by omega, a2, by omega, by omega, ih (l + 1) v _ (by omega) (by omega) (fun p q w1 w2 w3 => ?_) (fun p p1 p2 => ?_) (fun p p1 p2 => ?_) hq⟩
      · rw [w_up_ne w3]; exact h1 p q w1 w2 w3
      · rw [w_up_ne cs.2.2.2.1]; exact h2 p p1 p2
      · by_cases y : p = l + 1
        · rw [y, w_up_eq, ho]
        · rw [w_up_nb y]; exact h3 p p1 (by omega)
  have l2 : ∀ (j : Nat) (l v : Int) (m' : w_M), 1 ≤ l → l + j = 16 → 0 ≤ v → v * ((2 ^ (16 - l).toNat : Nat) : Int) ≤ 32768 → y_rf c s n m' → y_cn m' c f k → (∀ m2, y_rf c s n m2 → y_cn m2 c f k → (0 ≤ y_lf (y_c f k) (16 - l).toNat l v → y_sy m2 s f k k) → Q (y_lf (y_c f k) (16 - l).toNat l v) m2) → xp_m_build_57 d from' k c s v l m' Q := by
    intro j
    induction j with
    | zero =>
      intro l v m' q1 q2 q3 q4 h1 h2 hq
      apply xr_m_build_57
      rw [if_neg (by omega)]
      have el : y_lf (y_c f k) (16 - l).toNat l v = v := by rw [show (16 - l).toNat = 0 by omega]; rfl
      rw [el] at hq
      refine l3 14 1 v _ (by decide) (by decide) (fun p q w1 w2 w3 => ?_) (fun p p1 p2 => ?_) (fun p p1 p2 => ?_) (fun m2 w1 w2 w3 => hq m2 w1 w2 (fun _ => w3))
      · rw [w_up_ne w3]; exact h1 p q w1 w2 w3
      · rw [w_up_ne cs.2.2.2.1]; exact h2 p p1 p2
      · rw [show p = 1 by omega, w_up_eq]; rfl
    | succ j ih =>
      intro l v m' q1 q2 q3 q4 h1 h2 hq
      have hcl := y_c_r f l k
      have hv := y_v_le q4 q3
      apply xr_m_build_57
      rw [if_pos (by omega)]
      refine ⟨a2, by omega, ?_⟩
      rw [h2 l (by omega) (by omega), w_32_id (x := 2 * v) (by omega) (by omega), w_32_id (x := 2 * v - y_c f k l) (by omega) (by omega)]
      rw [y_lf_s (by omega)] at hq
      by_cases z : 2 * v - y_c f k l < 0
      · rw [if_pos z]
        rw [if_pos z] at hq
        exact hq m' h1 h2 (fun w => by omega)
      · rw [if_neg z]
        rw [if_neg z] at hq
        have vs := y_v_s (C := y_c f k) hcl.1 (by omega) q3 q4
        have eq1 : (15 - l).toNat = (16 - (l + 1)).toNat := by omega
        rw [eq1] at hq vs
        rw [w_32_id (x := l + 1) (by omega) (by omega)]
        exact ih (l + 1) _ m' (by omega) (by omega) (by omega) vs h1 h2 hq
  have l1 : ∀ (j i : Nat) (m' : w_M), i + j = k → y_rf c s n m' → y_cn m' c f i → xp_m_build_24 d from' k c s i m' Q := by
    intro j
    induction j with
    | zero =>
      intro i m' hi h1 h2
      have : i = k := by omega
      subst this
      apply xr_m_build_24
      rw [if_neg (by omega)]
      exact l2 15 1 1 _ (by decide) (by decide) (by decide) (by decide) h1 h2 hQ
    | succ j ih =>
      intro i m' hi h1 h2
      obtain ⟨e1, e2, e3⟩ := hf i (by omega)
      apply xr_m_build_24
      have e4 : m' 444 (from' + i) = f i := by rw [h1 444 _ (by omega) (by omega) (by decide), e1]
      rw [if_pos (by omega), w_32_id (x := from' + i) (by omega) (by omega), w_32_id (x := (i : Int) + 1) (by omega) (by omega), e4]
      have hci := y_c_r f (f i) i
      rw [h2 (f i) e2 e3, w_32_id (x := y_c f i (f i) + 1) (by omega) (by omega), show ((i : Int) + 1) = ((i + 1 : Nat) : Int) by omega]
      refine ⟨by omega, a2, by omega, a2, a4, by omega, ih (i + 1) _ (by omega) (fun p q w1 w2 w3 => ?_) (fun p p1 p2 => ?_)⟩
      · rw [w_up_ne w1]; exact h1 p q w1 w2 w3
      · show _ = y_c f i p + if f i = p then 1 else 0
        by_cases z : p = f i
        · rw [z, w_up_eq, if_pos rfl]
        · rw [w_up_nb z, h2 p p1 p2, if_neg (by omega)]; omega
  have l0 : ∀ (j : Nat) (l : Int) (m' : w_M), 0 ≤ l → l + j = 16 → y_rf c s n m' → (∀ p, 0 ≤ p → p < l → m' c p = 0) → xp_m_build_3 d from' k c s l m' Q := by
    intro j
    induction j with
    | zero =>
      intro l m' q1 q2 h1 h2
      apply xr_m_build_3
      rw [if_neg (by omega)]
      exact l1 k 0 m' (by omega) h1 (fun p p1 p2 => h2 p p1 (by omega))
    | succ j ih =>
      intro l m' q1 q2 h1 h2
      apply xr_m_build_3
      rw [if_pos (by omega), w_32_id (x := l + 1) (by omega) (by omega)]
      refine ⟨a2, a4, by omega, ih (l + 1) _ (by omega) (by omega) (fun p q w1 w2 w3 => ?_) (fun p p1 p2 => ?_)⟩
      · rw [w_up_ne w1]; exact h1 p q w1 w2 w3
      · by_cases z : p = l
        · rw [z, w_up_eq]
        · rw [w_up_nb z]; exact h2 p p1 (by omega)
  apply xr_m_build
  exact l0 16 0 n (by decide) (by decide) (fun _ _ _ _ _ => rfl) (fun p p1 p2 => by omega)
end YC
