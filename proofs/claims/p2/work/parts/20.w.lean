/-! ===== runs over plain numbers: what a method does, said by integers over one row of numbers a cell ===== -/
/-- a value: its kind (0 int, 1 long, 2 reference), its number -/
abbrev w_V : Type := Nat × Int
/-- what cells hold: cell, place -/
abbrev w_M : Type := Int → Int → Int
/-- what a cell is: an object (class, its fields: 0 int, 1 long, 2 boolean, 3 a reference, c + 10 always the reference c) or an array (type, length) -/
abbrev w_S : Type := (Nat × List Nat) ⊕ (Nat × Nat)
def w_cv (v : w_V) : Value := match v.1 with
  | 0 => .int (Int32.ofInt v.2)
  | 1 => .long (Int64.ofInt v.2)
  | 2 => .ref v.2.toNat
  | _ => .retAddr 0
def w_r (t : Nat) (a : Int) : Prop := match t with
  | 0 => -2147483648 ≤ a ∧ a < 2147483648
  | 1 => -9223372036854775808 ≤ a ∧ a < 9223372036854775808
  | _ => 0 ≤ a
def w_up (m : w_M) (i k v : Int) : w_M := fun a b => if a = i ∧ b = k then v else m a b
def w_fv (m : w_M) (i : Int) (k s : Nat) : Value := match s with
  | 0 => .int (Int32.ofInt (m i k))
  | 1 => .long (Int64.ofInt (m i k))
  | 2 => .int (Int32.ofInt (m i k))
  | 3 => if m i k < 0 then .null else .ref (m i k).toNat
  | c => .ref (c - 10)
def w_fs (m : w_M) (i : Int) : Nat → List Nat → List Value
  | _, [] => []
  | k, s :: r => w_fv m i k s :: w_fs m i (k + 1) r
def w_ct (m : w_M) (i : Int) (t : Nat) : (Nat → Int32) ⊕ (Nat → Int64) ⊕ (Nat → UInt32) ⊕ (Nat → UInt64) ⊕ (Nat → Option Nat) := match t with
  | 3 => .inr (.inl (fun j => Int64.ofInt (m i j)))
  | 4 => .inr (.inr (.inr (.inr (fun j => if m i j < 0 then none else some (m i j).toNat))))
  | _ => .inl (fun j => Int32.ofInt (m i j))
def w_cell (m : w_M) (i : Int) (s : w_S) : ex_C := match s with
  | .inl (ci, fs) => .inl (ci, w_fs m i 0 fs)
  | .inr (t, n) => .inr (t, n, w_ct m i t)
def w_cells (m : w_M) : Nat → List w_S → List ex_C
  | _, [] => []
  | i, s :: r => w_cell m i s :: w_cells m (i + 1) r
def w_ar (t : Nat) (a : Int) : Prop := match t with
  | 0 => -2147483648 ≤ a ∧ a < 2147483648
  | 1 => -128 ≤ a ∧ a < 128
  | 2 => 0 ≤ a ∧ a < 2
  | 3 => -9223372036854775808 ≤ a ∧ a < 9223372036854775808
  | 4 => -1 ≤ a
  | _ => a = 0
def w_fr (s : Nat) (a : Int) : Prop := match s with
  | 0 => -2147483648 ≤ a ∧ a < 2147483648
  | 1 => -9223372036854775808 ≤ a ∧ a < 9223372036854775808
  | 2 => 0 ≤ a ∧ a < 2
  | 3 => -1 ≤ a
  | _ => a = 0
def w_okc (m : w_M) (i : Int) (s : w_S) : Prop := match s with
  | .inl (_, fs) => ∀ (k s : Nat), fs[k]? = some s → w_fr s (m i k)
  | .inr (t, _) => ∀ j : Int, w_ar t (m i j)
/-- what stands: the cells' kinds below and from E on, what those below E hold, the methods, all slots; strings and statics; which cells may be written -/
abbrev w_G : Type := Nat × (Nat → Option w_S) × w_M × List w_S × Nat × (Nat → Option ex_M) × List (String × Nat × Nat × String) × List (String × String × String × Value) × (Nat → Prop)
def w_sh (G : w_G) (i : Nat) : Option w_S := if i < G.1 then G.2.1 i else G.2.2.2.1[i - G.1]?
def w_hp (G : w_G) (m : w_M) : ex_H := (w_cells m G.1 G.2.2.2.1, G.2.2.2.2.1)
noncomputable def w_g (G : w_G) : ex_G := (G.1, fun i => (G.2.1 i).map (w_cell G.2.2.1 i), G.2.2.2.2.2.2.1, G.2.2.2.2.2.2.2.1)
/-- a place of a cell -/
def w_pl (s : w_S) (j : Int) : Prop := match s with
  | .inl (_, fs) => 0 ≤ j ∧ j < fs.length
  | .inr (_, n) => 0 ≤ j ∧ j < n
/-- what cells hold: numbers as their kinds bear; below E what stands there; elsewhere nothing -/
def w_nm (G : w_G) (m : w_M) : Prop := (∀ (i : Nat) (s : w_S), w_sh G i = some s → w_okc m i s) ∧ (∀ (i : Nat), i < G.1 → ∀ j : Int, m i j = G.2.2.1 i j) ∧ ∀ i j : Int, ¬ (0 ≤ i ∧ (i.toNat < G.1 ∨ ∃ s, w_sh G i.toNat = some s ∧ w_pl s j)) → m i j = 0
/-- a cell that may be written -/
def w_wr (G : w_G) (i : Nat) : Prop := G.1 ≤ i ∧ G.2.2.2.2.2.2.2.2 i
/-- what may not be written stays -/
def w_ke (G : w_G) (m m' : w_M) : Prop := ∀ (i j : Int), ¬ (0 ≤ i ∧ G.2.2.2.2.2.2.2.2 i.toNat) → m' i j = m i j
theorem w_ke.rf {G : w_G} {m : w_M} : w_ke G m m := fun _ _ _ => rfl
theorem w_ke.tr {G : w_G} {m m' m2 : w_M} (h : w_ke G m m') (h2 : w_ke G m' m2) : w_ke G m m2 := fun i j q => (h2 i j q).trans (h i j q)
theorem w_ke.on {G : w_G} {m m' : w_M} {a : Int} (h0 : 0 ≤ a) (hw : w_wr G a.toNat) (h : ∀ (b j : Int), b ≠ a → m' b j = m b j) : w_ke G m m' := fun i j q => h i j (fun e => q (by subst e; exact ⟨h0, hw.2⟩))
theorem w_cells_get (m : w_M) : ∀ (l : List w_S) (i k : Nat), (w_cells m i l)[k]? = (l[k]?).map (w_cell m ((i + k : Nat) : Int)) := by
  intro l
  induction l with
  | nil => intro i k; rfl
  | cons s r ih =>
    intro i k
    cases k with
    | zero => rfl
    | succ k =>
      show (w_cells m (i + 1) r)[k]? = (r[k]?).map _
      rw [ih (i + 1) k, show i + 1 + k = i + (k + 1) by omega]
theorem w_cells_len (m : w_M) : ∀ (l : List w_S) (i : Nat), (w_cells m i l).length = l.length := by
  intro l
  induction l with
  | nil => intro i; rfl
  | cons s r ih => intro i; show (w_cells m (i + 1) r).length + 1 = r.length + 1; rw [ih]
theorem w_fs_same {m m' : w_M} {i : Int} (h : ∀ j, m i j = m' i j) : ∀ (fs : List Nat) (k : Nat), w_fs m i k fs = w_fs m' i k fs := by
  intro fs
  induction fs with
  | nil => intro k; rfl
  | cons s r ih =>
    intro k
    show w_fv m i k s :: _ = w_fv m' i k s :: _
    rw [ih]
    unfold w_fv
    rw [h]
theorem w_cell_same {m m' : w_M} {i : Int} (h : ∀ j, m i j = m' i j) (s : w_S) : w_cell m i s = w_cell m' i s := by
  unfold w_cell
  split
  · rw [w_fs_same h]
  · unfold w_ct
    simp only [h]
theorem w_fs_get (m : w_M) (i : Int) : ∀ (fs : List Nat) (k j : Nat), (w_fs m i k fs)[j]? = (fs[j]?).map (w_fv m i (k + j)) := by
  intro fs
  induction fs with
  | nil => intro k j; rfl
  | cons s r ih =>
    intro k j
    cases j with
    | zero => rfl
    | succ j =>
      show (w_fs m i (k + 1) r)[j]? = (r[j]?).map _
      rw [ih (k + 1) j, show k + 1 + j = k + (j + 1) by omega]
theorem w_fs_len (m : w_M) (i : Int) : ∀ (fs : List Nat) (k : Nat), (w_fs m i k fs).length = fs.length := by
  intro fs
  induction fs with
  | nil => intro k; rfl
  | cons s r ih => intro k; show (w_fs m i (k + 1) r).length + 1 = r.length + 1; rw [ih]
section WB
variable {G : w_G} {m m' : w_M}
theorem w_own {i : Nat} {s : w_S} (h : w_sh G i = some s) (hi : G.1 ≤ i) : ex_own (w_g G) (w_hp G m) i = some (w_cell m i s) := by
  unfold w_sh at h
  rw [if_neg (by omega)] at h
  unfold ex_own
  have hb : Nat.blt i (w_g G).1 = false := by
    cases hb : Nat.blt i (w_g G).1 with
    | false => rfl
    | true => exact absurd (Nat.blt_eq.mp hb) (by show ¬ i < G.1; omega)
  rw [hb]
  show ex_nth (w_cells m G.1 G.2.2.2.1) (i - G.1) = _
  rw [ex_nth_eq, w_cells_get, h, show G.1 + (i - G.1) = i by omega]
  rfl
theorem w_get {i : Nat} {s : w_S} (hn : w_nm G m) (h : w_sh G i = some s) : ex_get (w_g G) (w_hp G m) i = some (w_cell m i s) := by
  by_cases hi : i < G.1
  · have h0 := h
    unfold w_sh at h
    rw [if_pos hi] at h
    unfold ex_get
    rw [show Nat.blt i (w_g G).1 = true from Nat.blt_eq.mpr hi]
    show (G.2.1 i).map (w_cell G.2.2.1 i) = _
    rw [h]
    exact congrArg some (w_cell_same (fun j => (hn.2.1 i hi j).symm) s)
  · have h1 := w_own (m := m) h (by omega)
    unfold ex_own at h1
    unfold ex_get
    have hb : Nat.blt i (w_g G).1 = false := by
      cases hb : Nat.blt i (w_g G).1 with
      | false => rfl
      | true => exact absurd (Nat.blt_eq.mp hb) (by show ¬ i < G.1; omega)
    rw [hb] at h1 ⊢
    exact h1
theorem w_cells_set {s : w_S} : ∀ (l : List w_S) (i k : Nat), l[k]? = some s → (∀ (a : Nat) (j : Int), a ≠ i + k → m' a j = m a j) → (w_cells m i l).set k (w_cell m' ((i + k : Nat) : Int) s) = w_cells m' i l := by
  intro l
  induction l with
  | nil => intro i k h _; cases h
  | cons s0 r ih =>
    intro i k h hk
    cases k with
    | zero =>
      cases h
      show w_cell m' i s :: w_cells m (i + 1) r = w_cell m' i s :: w_cells m' (i + 1) r
      congr 1
      have : ∀ (l : List w_S) (n : Nat), i < n → w_cells m n l = w_cells m' n l := by
        intro l
        induction l with
        | nil => intro n _; rfl
        | cons s1 r1 ih1 =>
          intro n hn
          show w_cell m n s1 :: _ = w_cell m' n s1 :: _
          rw [ih1 (n + 1) (by omega), w_cell_same (m' := m') (fun j => (hk n j (by omega)).symm)]
      exact this r (i + 1) (by omega)
    | succ k =>
      show w_cell m i s0 :: (w_cells m (i + 1) r).set k _ = w_cell m' i s0 :: w_cells m' (i + 1) r
      rw [w_cell_same (m' := m') (i := (i : Int)) (fun j => (hk i j (by omega)).symm)]
      congr 1
      rw [show i + (k + 1) = i + 1 + k by omega]
      exact ih (i + 1) k h (fun a j ha => hk a j (by omega))
theorem w_set {i : Nat} {s : w_S} (h : w_sh G i = some s) (hi : G.1 ≤ i) (hk : ∀ (a : Nat) (j : Int), a ≠ i → m' a j = m a j) : ex_set (w_g G) (w_hp G m) i (w_cell m' i s) = w_hp G m' := by
  unfold w_sh at h
  rw [if_neg (by omega)] at h
  unfold ex_set w_hp
  show (ex_lset (w_cells m G.1 G.2.2.2.1) (i - G.1) _, G.2.2.2.2.1) = _
  rw [ex_lset_eq]
  congr 1
  have := w_cells_set (m := m) (m' := m') G.2.2.2.1 G.1 (i - G.1) h (fun a j ha => hk a j (by omega))
  rw [show G.1 + (i - G.1) = i by omega] at this
  exact this
theorem w_nm_set {i : Nat} {s : w_S} (hn : w_nm G m) (h : w_sh G i = some s) (hi : G.1 ≤ i) (hk : ∀ (a : Nat) (j : Int), a ≠ i → m' a j = m a j) (hz : ∀ a j : Int, a < 0 → m' a j = m a j) (hp : ∀ j : Int, ¬ w_pl s j → m' i j = m i j) (ho : w_okc m' i s) : w_nm G m' := by
  refine ⟨fun a s' ha => ?_, fun a ha j => ?_, fun a j hq => ?_⟩
  · by_cases e : a = i
    · subst e
      rw [h] at ha
      cases ha
      exact ho
    · have h1 := hn.1 a s' ha
      unfold w_okc at h1 ⊢
      split at h1
      · intro k s2 hks
        rw [hk a _ e]
        exact h1 k s2 hks
      · intro j
        rw [hk a j e]
        exact h1 j
  · rw [hk a j (by omega)]
    exact hn.2.1 a ha j
  · have h0 := hn.2.2 a j hq
    by_cases ha : a < 0
    · rw [hz a j ha]; exact h0
    · have e : a = ((a.toNat : Nat) : Int) := by omega
      by_cases e2 : a.toNat = i
      · have h2 : ¬ w_pl s j := fun z => hq ⟨by omega, Or.inr ⟨s, by rw [e2]; exact h, z⟩⟩
        rw [e, e2, hp j h2]
        rw [e, e2] at h0
        exact h0
      · rw [e, hk _ j e2, ← e]
        exact h0
theorem w_up_ne {i k v a b : Int} (h : a ≠ i) : w_up m i k v a b = m a b := by
  unfold w_up
  rw [if_neg (fun q => h q.1)]
theorem w_up_eq {i k v : Int} : w_up m i k v i k = v := by
  unfold w_up
  rw [if_pos ⟨rfl, rfl⟩]
theorem w_up_nb {i k v a b : Int} (h : b ≠ k) : w_up m i k v a b = m a b := by
  unfold w_up
  rw [if_neg (fun q => h q.2)]
end WB
/-- the same heap, the same numbers -/
theorem w_inj_i {x y : Int} (hx : -2147483648 ≤ x ∧ x < 2147483648) (hy : -2147483648 ≤ y ∧ y < 2147483648) (h : Int32.ofInt x = Int32.ofInt y) : x = y := by
  have e2 := congrArg Int32.toInt h
  rw [Int32.toInt_ofInt_of_le hx.1 hx.2, Int32.toInt_ofInt_of_le hy.1 hy.2] at e2
  exact e2
theorem w_inj_l {x y : Int} (hx : -9223372036854775808 ≤ x ∧ x < 9223372036854775808) (hy : -9223372036854775808 ≤ y ∧ y < 9223372036854775808) (h : Int64.ofInt x = Int64.ofInt y) : x = y := by
  have e2 := congrArg Int64.toInt h
  rw [Int64.toInt_ofInt_of_le hx.1 hx.2, Int64.toInt_ofInt_of_le hy.1 hy.2] at e2
  exact e2
theorem w_fv_inj {m m' : w_M} {s : Nat} {i : Int} {k : Nat} (h1 : w_fr s (m i k)) (h2 : w_fr s (m' i k)) (h : w_fv m i k s = w_fv m' i k s) : m i k = m' i k := by
  match s, h1, h2, h with
  | 0, h1, h2, h => exact w_inj_i h1 h2 (Value.int.inj h)
  | 1, h1, h2, h => exact w_inj_l h1 h2 (Value.long.inj h)
  | 2, h1, h2, h =>
    have h1 : 0 ≤ m i k ∧ m i k < 2 := h1
    have h2 : 0 ≤ m' i k ∧ m' i k < 2 := h2
    exact w_inj_i (by omega) (by omega) (Value.int.inj h)
  | 3, h1, h2, h =>
    have h1 : -1 ≤ m i k := h1
    have h2 : -1 ≤ m' i k := h2
    have h : (if m i k < 0 then Value.null else Value.ref (m i k).toNat) = (if m' i k < 0 then Value.null else Value.ref (m' i k).toNat) := h
    split at h
    · split at h
      · omega
      · cases h
    · split at h
      · cases h
      · have h5 : (m i k).toNat = (m' i k).toNat := Value.ref.inj h
        omega
  | s + 4, h1, h2, h =>
    have h1 : m i k = 0 := h1
    have h2 : m' i k = 0 := h2
    omega
theorem w_can {G : w_G} {m m' : w_M} (h1 : w_nm G m) (h2 : w_nm G m') (h : w_hp G m = w_hp G m') : m = m' := by
  have hc : w_cells m G.1 G.2.2.2.1 = w_cells m' G.1 G.2.2.2.1 := congrArg Prod.fst h
  funext i j
  by_cases hq : 0 ≤ i ∧ (i.toNat < G.1 ∨ ∃ s, w_sh G i.toNat = some s ∧ w_pl s j)
  · obtain ⟨h0, hq⟩ := hq
    have ei : i = ((i.toNat : Nat) : Int) := by omega
    by_cases hl : i.toNat < G.1
    · rw [ei, h1.2.1 _ hl j, h2.2.1 _ hl j]
    · rcases hq with hq | ⟨s, hs, hp⟩
      · exact absurd hq hl
      · have e1 : (w_cells m G.1 G.2.2.2.1)[i.toNat - G.1]? = (w_cells m' G.1 G.2.2.2.1)[i.toNat - G.1]? := by rw [hc]
        have hs0 := hs
        unfold w_sh at hs0
        rw [if_neg hl] at hs0
        rw [w_cells_get, w_cells_get, hs0, show G.1 + (i.toNat - G.1) = i.toNat by omega] at e1
        have e2 : w_cell m (i.toNat : Nat) s = w_cell m' (i.toNat : Nat) s := Option.some.inj e1
        rw [← ei] at e2
        have o1 := h1.1 i.toNat s hs
        have o2 := h2.1 i.toNat s hs
        rw [← ei] at o1 o2
        match s, hp, e2, o1, o2 with
        | .inl (ci, fs), hp, e2, o1, o2 =>
          have hp : 0 ≤ j ∧ j < fs.length := hp
          have e3 : w_fs m i 0 fs = w_fs m' i 0 fs := congrArg Prod.snd (Sum.inl.inj e2)
          have e4 : (w_fs m i 0 fs)[j.toNat]? = (w_fs m' i 0 fs)[j.toNat]? := by rw [e3]
          have hk : fs[j.toNat]? = some fs[j.toNat] := List.getElem?_eq_getElem (by omega)
          rw [w_fs_get, w_fs_get, hk, Nat.zero_add] at e4
          have := w_fv_inj (o1 j.toNat _ hk) (o2 j.toNat _ hk) (Option.some.inj e4)
          rw [show ((j.toNat : Nat) : Int) = j by omega] at this
          exact this
        | .inr (t, n), hp, e2, o1, o2 =>
          have hp : 0 ≤ j ∧ j < n := hp
          have e3 : w_ct m i t = w_ct m' i t := congrArg (fun q => q.2.2) (Sum.inr.inj e2)
          have p1 := o1 j
          have p2 := o2 j
          have ej : ((j.toNat : Nat) : Int) = j := by omega
          match t, e3, p1, p2 with
          | 0, e3, p1, p2 =>
            have e5 := congrFun (Sum.inl.inj e3) j.toNat
            simp only [ej] at e5
            exact w_inj_i p1 p2 e5
          | 1, e3, p1, p2 =>
            have e5 := congrFun (Sum.inl.inj e3) j.toNat
            simp only [ej] at e5
            have p1 : -128 ≤ m i j ∧ m i j < 128 := p1
            have p2 : -128 ≤ m' i j ∧ m' i j < 128 := p2
            exact w_inj_i (by omega) (by omega) e5
          | 2, e3, p1, p2 =>
            have e5 := congrFun (Sum.inl.inj e3) j.toNat
            simp only [ej] at e5
            have p1 : 0 ≤ m i j ∧ m i j < 2 := p1
            have p2 : 0 ≤ m' i j ∧ m' i j < 2 := p2
            exact w_inj_i (by omega) (by omega) e5
          | 3, e3, p1, p2 =>
            have e5 := congrFun (Sum.inl.inj (Sum.inr.inj e3)) j.toNat
            simp only [ej] at e5
            exact w_inj_l p1 p2 e5
          | 4, e3, p1, p2 =>
            have e5 := congrFun (Sum.inr.inj (Sum.inr.inj (Sum.inr.inj (Sum.inr.inj e3)))) j.toNat
            simp only [ej] at e5
            have p1 : -1 ≤ m i j := p1
            have p2 : -1 ≤ m' i j := p2
            split at e5
            · split at e5
              · omega
              · cases e5
            · split at e5
              · cases e5
              · have := Option.some.inj e5
                omega
          | t + 5, e3, p1, p2 =>
            have p1 : m i j = 0 := p1
            have p2 : m' i j = 0 := p2
            omega
  · rw [h1.2.2 i j hq, h2.2.2 i j hq]
-- locals and stacks
def w_lv (lv : List (Option w_V)) (e : ex_V) : Prop := ∀ (i : Nat) (v : w_V), lv[i]? = some (some v) → ex_at e i = some (w_cv v)
def w_nl (lv : List (Option w_V)) : Prop := ∀ (i : Nat) (v : w_V), lv[i]? = some (some v) → w_r v.1 v.2
def w_ns (st : List w_V) : Prop := ∀ v ∈ st, w_r v.1 v.2
def w_rv (t : Nat) (r : Int) : Option Value := match t with
  | 3 => none
  | t => some (w_cv (t, r))
def w_push (t : Nat) (r : Int) (st : List w_V) : List w_V := match t with
  | 3 => st
  | t => (t, r) :: st
theorem w_rv_ne {t : Nat} {r : Int} (h : t ≠ 3) : w_rv t r = some (w_cv (t, r)) := by
  unfold w_rv
  split
  · exact absurd rfl h
  · rfl
theorem w_push_ne {t : Nat} {r : Int} {st : List w_V} (h : t ≠ 3) : w_push t r st = (t, r) :: st := by
  unfold w_push
  split
  · exact absurd rfl h
  · rfl
noncomputable def w_rn (G : w_G) (N d k : Nat) (as : List Value) (h : ex_H) : Option (Option Value × ex_H) := ex_run (w_g G) G.2.2.2.2.2.1 N d k as h
noncomputable def w_lp (G : w_G) (N d : Nat) (M : ex_M) (f : ex_F) : Option (Option Value × ex_H) := ex_loop (w_g G) (ex_run (w_g G) G.2.2.2.2.2.1 N d) M.2.2.1 M.2.2.2.1 M.2.2.2.2 N f
/-- a frame's run from here ends with Q -/
def w_W (G : w_G) (d : Nat) (M : ex_M) (t pc : Nat) (lv : List (Option w_V)) (st : List w_V) (m : w_M) (Q : Int → w_M → Prop) : Prop :=
  w_nm G m → w_nl lv → w_ns st → ∃ (N : Nat) (r : Int) (m' : w_M), (∀ e : ex_V, w_lv lv e → w_lp G N d M (pc, e, st.map w_cv, w_hp G m) = some (w_rv t r, w_hp G m')) ∧ w_nm G m' ∧ w_r t r ∧ w_ke G m m' ∧ Q r m'
/-- a call ends with Q -/
def w_C (G : w_G) (d k t : Nat) (as : List w_V) (m : w_M) (Q : Int → w_M → Prop) : Prop :=
  w_nm G m → w_ns as → ∃ (N : Nat) (r : Int) (m' : w_M), w_rn G N d k (as.map w_cv) (w_hp G m) = some (w_rv t r, w_hp G m') ∧ w_nm G m' ∧ w_r t r ∧ w_ke G m m' ∧ Q r m'
theorem w_loop_mono {g : ex_G} {ca cb : Nat → List Value → ex_H → Option (Option Value × ex_H)} (hc : ∀ k as h r, ca k as h = some r → cb k as h = some r) {nL : Nat} {rt : Option FieldType} {cd : List (List (Option ex_I))} :
    ∀ (n m : Nat) (f : ex_F) (r : Option Value × ex_H), n ≤ m → ex_loop g ca nL rt cd n f = some r → ex_loop g cb nL rt cd m f = some r := by
  intro n
  induction n with
  | zero => intro m f r _ hq; cases hq
  | succ n ih =>
    intro m f r hnm hq
    obtain ⟨m, rfl⟩ : ∃ k, m = k + 1 := ⟨m - 1, by omega⟩
    unfold ex_loop at hq ⊢
    cases he : ex_cd cd f.1 with
    | none => rw [he] at hq; cases hq
    | some ei =>
      rw [he] at hq
      simp only at hq ⊢
      cases hs : ex_step g nL rt ei f.1 f.2.1 f.2.2.1 f.2.2.2 with
      | none => rw [hs] at hq; cases hq
      | some q =>
        rw [hs] at hq
        rcases q with k | r1 | ⟨k, as, f1⟩
        · exact ih m k r (by omega) hq
        · exact hq
        · simp only at hq ⊢
          cases hcl : ca k as f1.2.2.2 with
          | none => rw [hcl] at hq; cases hq
          | some rh =>
            rw [hcl] at hq
            rw [hc _ _ _ _ hcl]
            obtain ⟨rv, h2⟩ := rh
            cases rv with
            | none => exact ih m _ r (by omega) hq
            | some v => exact ih m _ r (by omega) hq
theorem w_run_mono {g : ex_G} {P : Nat → Option ex_M} {N N' : Nat} (hN : N ≤ N') : ∀ (d d' k : Nat) (as : List Value) (h : ex_H) (r : Option Value × ex_H), d ≤ d' → ex_run g P N d k as h = some r → ex_run g P N' d' k as h = some r := by
  intro d
  induction d with
  | zero => intro d' k as h r _ hq; cases hq
  | succ d ih =>
    intro d' k as h r hd hq
    obtain ⟨d', rfl⟩ : ∃ k, d' = k + 1 := ⟨d' - 1, by omega⟩
    unfold ex_run at hq ⊢
    cases hk : P k with
    | none => rw [hk] at hq; cases hq
    | some M =>
      rw [hk] at hq
      simp only at hq ⊢
      cases hw : Nat.ble (ex_w as) M.2.2.1 with
      | false => rw [hw] at hq; cases hq
      | true =>
        rw [hw] at hq
        exact w_loop_mono (fun k as h r hc => ih d' k as h r (by omega) hc) N N' _ r hN hq
section WW
variable {G : w_G} {d t pc nx : Nat} {M : ex_M} {m m' : w_M} {lv lv' : List (Option w_V)} {st st' : List w_V} {Q Q' : Int → w_M → Prop}
theorem w_lp_mono {N N' : Nat} {f : ex_F} {r : Option Value × ex_H} (hN : N ≤ N') (h : w_lp G N d M f = some r) : w_lp G N' d M f = some r :=
  w_loop_mono (fun _ _ _ _ hc => w_run_mono hN _ _ _ _ _ _ (Nat.le_refl _) hc) N N' f r hN h
theorem w_C.more {k : Nat} {as : List w_V} (h : w_C G d k t as m Q) (hq : ∀ r m', Q r m' → Q' r m') : w_C G d k t as m Q' := by
  intro h1 h2
  obtain ⟨N, r, m', q1, q2, q3, qk, q4⟩ := h h1 h2
  exact ⟨N, r, m', q1, q2, q3, qk, hq _ _ q4⟩
theorem w_C.deep {k d' : Nat} {as : List w_V} (h : w_C G d k t as m Q) (hd : d ≤ d') : w_C G d' k t as m Q := by
  intro h1 h2
  obtain ⟨N, r, m', q1, q2, q3, q4⟩ := h h1 h2
  exact ⟨N, r, m', w_run_mono (Nat.le_refl _) _ _ _ _ _ _ hd q1, q2, q3, q4⟩
theorem w_W.more (h : w_W G d M t pc lv st m Q) (hq : ∀ r m', Q r m' → Q' r m') : w_W G d M t pc lv st m Q' := by
  intro h1 h2 h3
  obtain ⟨N, r, m', q1, q2, q3, qk, q4⟩ := h h1 h2 h3
  exact ⟨N, r, m', q1, q2, q3, qk, hq _ _ q4⟩
/-- fewer locals are enough -/
theorem w_W.less (h : w_W G d M t pc lv' st m Q) (hl : ∀ (i : Nat) (v : w_V), lv'[i]? = some (some v) → lv[i]? = some (some v)) : w_W G d M t pc lv st m Q :=
  fun h1 h2 h3 => by
    obtain ⟨N, r, m', q1, q2⟩ := h h1 (fun i v q => h2 i v (hl i v q)) h3
    exact ⟨N, r, m', fun e h4 => q1 e (fun i v q => h4 i v (hl i v q)), q2⟩
/-- what cells hold is known while a run is looked at -/
theorem w_W.nm (h : w_nm G m → w_W G d M t pc lv st m Q) : w_W G d M t pc lv st m Q := fun h1 h2 h3 => h h1 h1 h2 h3
theorem w_W.nl (h : w_nl lv → w_W G d M t pc lv st m Q) : w_W G d M t pc lv st m Q := fun h1 h2 h3 => h h2 h1 h2 h3
theorem w_C.nm {k : Nat} {as : List w_V} (h : w_nm G m → w_C G d k t as m Q) : w_C G d k t as m Q := fun h1 h2 => h h1 h1 h2
theorem w_C.ns {k : Nat} {as : List w_V} (h : w_ns as → w_C G d k t as m Q) : w_C G d k t as m Q := fun h1 h2 => h h2 h1 h2
/-- one instruction -/
theorem w_go {ei : ex_I} (hc : ex_cd M.2.2.2.2 pc = some ei) (hn : w_nm G m → w_nl lv → w_ns st → w_nm G m' ∧ w_nl lv' ∧ w_ns st') (hk : w_ns st → w_ke G m m')
    (hs : w_nm G m → w_nl lv → w_ns st → ∀ e, w_lv lv e → ∃ e', w_lv lv' e' ∧ ex_step (w_g G) M.2.2.1 M.2.2.2.1 ei pc e (st.map w_cv) (w_hp G m) = some (.inl (nx, e', st'.map w_cv, w_hp G m')))
    (h : w_W G d M t nx lv' st' m' Q) : w_W G d M t pc lv st m Q := by
  intro h1 h2 h3
  obtain ⟨n1, n2, n3⟩ := hn h1 h2 h3
  obtain ⟨N, r, m2, q1, q2, q3, qk, q4⟩ := h n1 n2 n3
  refine ⟨N + 1, r, m2, fun e h4 => ?_, q2, q3, (hk h3).tr qk, q4⟩
  obtain ⟨e', l1, s1⟩ := hs h1 h2 h3 e h4
  have q5 := w_loop_mono (fun _ _ _ _ hc => w_run_mono (Nat.le_succ N) _ _ _ _ _ _ (Nat.le_refl _) hc) N N _ _ (Nat.le_refl _) (q1 e' l1)
  unfold w_lp
  unfold ex_loop
  simp only [hc, s1]
  exact q5
/-- one instruction that leaves locals and cells -/
theorem w_goS {ei : ex_I} (hc : ex_cd M.2.2.2.2 pc = some ei) (hn : w_nm G m → w_nl lv → w_ns st → w_ns st')
    (hs : w_nm G m → w_nl lv → w_ns st → ∀ e, w_lv lv e → ex_step (w_g G) M.2.2.1 M.2.2.2.1 ei pc e (st.map w_cv) (w_hp G m) = some (.inl (nx, e, st'.map w_cv, w_hp G m)))
    (h : w_W G d M t nx lv st' m Q) : w_W G d M t pc lv st m Q :=
  w_go hc (fun a b c => ⟨a, b, hn a b c⟩) (fun _ => w_ke.rf) (fun a b c e l => ⟨e, l, hs a b c e l⟩) h
theorem w_ret {ei : ex_I} {r : Int} (hc : ex_cd M.2.2.2.2 pc = some ei) (hr : w_ns st → w_r t r)
    (hs : ∀ e, ex_step (w_g G) M.2.2.1 M.2.2.2.1 ei pc e (st.map w_cv) (w_hp G m) = some (.inr (.inl (w_rv t r, w_hp G m)))) (h : Q r m) : w_W G d M t pc lv st m Q := by
  intro h1 h2 h3
  refine ⟨1, r, m, fun e h4 => ?_, h1, hr h3, w_ke.rf, h⟩
  unfold w_lp
  unfold ex_loop
  simp only [hc, hs e]
theorem w_call {ei : ex_I} {k t' : Nat} {as : List w_V} (hc : ex_cd M.2.2.2.2 pc = some ei) (hn : w_ns st → w_ns as ∧ w_ns st')
    (hs : w_nm G m → ∀ e, ex_step (w_g G) M.2.2.1 M.2.2.2.1 ei pc e (st.map w_cv) (w_hp G m) = some (.inr (.inr (k, as.map w_cv, (nx, e, st'.map w_cv, w_hp G m)))))
    (h : w_C G d k t' as m (fun r m' => w_W G d M t nx lv (w_push t' r st') m' Q)) : w_W G d M t pc lv st m Q := by
  intro h1 h2 h3
  obtain ⟨n1, n2⟩ := hn h3
  obtain ⟨N, r, m', q1, q2, q3, qk, q4⟩ := h h1 n1
  have n3 : w_ns (w_push t' r st') := by
    unfold w_push
    split
    · exact n2
    · intro v hv
      rcases List.mem_cons.mp hv with e | hv
      · subst e; exact q3
      · exact n2 v hv
  obtain ⟨N2, r2, m2, p1, p2, p3, pk, p4⟩ := q4 q2 h2 n3
  refine ⟨N + N2 + 1, r2, m2, fun e h4 => ?_, p2, p3, qk.tr pk, p4⟩
  have q5 := w_run_mono (show N ≤ N + N2 + 1 by omega) _ _ _ _ _ _ (Nat.le_refl _) q1
  have p5 := w_loop_mono (fun _ _ _ _ hc => w_run_mono (show N2 ≤ N + N2 + 1 by omega) _ _ _ _ _ _ (Nat.le_refl _) hc) N2 (N + N2) _ _ (by omega) (p1 e h4)
  unfold w_lp
  unfold ex_loop
  simp only [hc, hs h1 e]
  rw [q5]
  by_cases ht : t' = 3
  · subst ht
    exact p5
  · rw [w_push_ne ht] at p5
    rw [w_rv_ne ht]
    exact p5
end WW
/-! two runs, side by side: each on its own row of numbers -/
section W2
variable {G G' : w_G} {d d' t t' pc pc' : Nat} {M M' : ex_M} {m n : w_M} {lv lv' : List (Option w_V)} {st st' : List w_V} {Q : Int → w_M → Int → w_M → Prop}
/-- the one that is looked at second comes first -/
theorem w_swap (h1 : w_nm G m) (h2 : w_nl lv) (h3 : w_ns st)
    (h : w_nm G' n → w_nl lv' → w_ns st' → w_W G d M t pc lv st m (fun r m1 => w_W G' d' M' t' pc' lv' st' n (fun r' n1 => Q r m1 r' n1))) :
    w_W G' d' M' t' pc' lv' st' n (fun r' n1 => w_W G d M t pc lv st m (fun r m1 => Q r m1 r' n1)) := by
  intro k1 k2 k3
  obtain ⟨N, r, m1, q1, q2, q3, qk, q4⟩ := h k1 k2 k3 h1 h2 h3
  obtain ⟨N', r', n1, p1, p2, p3, pk, p4⟩ := q4 k1 k2 k3
  exact ⟨N', r', n1, p1, p2, p3, pk, fun _ _ _ => ⟨N, r, m1, q1, q2, q3, qk, p4⟩⟩
end W2
section W3
variable {G G' : w_G} {d d' t t' k k' : Nat} {m n : w_M} {as as' : List w_V} {Q : Int → w_M → Int → w_M → Prop}
theorem w_swapC (h1 : w_nm G m) (h3 : w_ns as)
    (h : w_nm G' n → w_ns as' → w_C G d k t as m (fun r m1 => w_C G' d' k' t' as' n (fun r' n1 => Q r m1 r' n1))) :
    w_C G' d' k' t' as' n (fun r' n1 => w_C G d k t as m (fun r m1 => Q r m1 r' n1)) := by
  intro k1 k3
  obtain ⟨N, r, m1, q1, q2, q3, qk, q4⟩ := h k1 k3 h1 h3
  obtain ⟨N', r', n1, p1, p2, p3, pk, p4⟩ := q4 k1 k3
  exact ⟨N', r', n1, p1, p2, p3, pk, fun _ _ => ⟨N, r, m1, q1, q2, q3, qk, p4⟩⟩
end W3
/-- a run's end: just this answer, just these numbers -/
def w_q (r : Int) (m : w_M) : Int → w_M → Prop := fun a b => a = r ∧ b = m
section W4
variable {G : w_G} {d t pc k : Nat} {M : ex_M} {m m1 m2 : w_M} {lv : List (Option w_V)} {st as : List w_V} {Q : Int → w_M → Prop} {r r2 : Int}
theorem w_W.to (h : w_W G d M t pc lv st m (w_q r m1)) (hq : Q r m1) : w_W G d M t pc lv st m Q := h.more (fun a b e => by rw [e.1, e.2]; exact hq)
theorem w_C.to (h : w_C G d k t as m (w_q r m1)) (hq : Q r m1) : w_C G d k t as m Q := h.more (fun a b e => by rw [e.1, e.2]; exact hq)
theorem w_C.get (h : w_C G d k t as m Q) (h1 : w_nm G m) (h2 : w_ns as) : ∃ r m1, w_C G d k t as m (w_q r m1) ∧ w_nm G m1 ∧ w_r t r ∧ w_ke G m m1 ∧ Q r m1 := by
  obtain ⟨N, r, m1, q1, q2, q3, qk, q4⟩ := h h1 h2
  exact ⟨r, m1, fun _ _ => ⟨N, r, m1, q1, q2, q3, qk, rfl, rfl⟩, q2, q3, qk, q4⟩
theorem w_C.ke (h : w_C G d k t as m (w_q r m1)) (h1 : w_nm G m) (h2 : w_ns as) : w_nm G m1 ∧ w_r t r ∧ w_ke G m m1 := by
  obtain ⟨N, r', m1', q1, q2, q3, qk, e1, e2⟩ := h h1 h2
  subst e1 e2
  exact ⟨q2, q3, qk⟩
theorem w_rv_inj {a b : Int} (ha : w_r t a) (hb : w_r t b) (ht : t < 2) (h : w_rv t a = w_rv t b) : a = b := by
  match t, ht, ha, hb, h with
  | 0, _, ha, hb, h => exact w_inj_i ha hb (Value.int.inj (Option.some.inj h))
  | 1, _, ha, hb, h => exact w_inj_l ha hb (Value.long.inj (Option.some.inj h))
/-- there is one end -/
theorem w_C.one (h : w_C G d k t as m (w_q r m1)) (h' : w_C G d k t as m (w_q r2 m2)) (h1 : w_nm G m) (h2 : w_ns as) (ht : t < 2) : r = r2 ∧ m1 = m2 := by
  obtain ⟨N, r', m1', q1, q2, q3, qk, e1, e2⟩ := h h1 h2
  obtain ⟨N', r2', m2', p1, p2, p3, pk, f1, f2⟩ := h' h1 h2
  subst e1 e2 f1 f2
  have a1 := w_run_mono (Nat.le_max_left N N') _ _ _ _ _ _ (Nat.le_refl _) q1
  have a2 := w_run_mono (Nat.le_max_right N N') _ _ _ _ _ _ (Nat.le_refl _) p1
  rw [a1] at a2
  have a3 := Option.some.inj a2
  exact ⟨w_rv_inj q3 p3 ht (congrArg Prod.fst a3), w_can q2 p2 (congrArg Prod.snd a3)⟩
end W4
