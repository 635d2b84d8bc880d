/-! ===== an instruction, a row, over plain numbers (printed by program) ===== -/
def w_32 (x : Int) : Int := x.bmod 4294967296
def w_64 (x : Int) : Int := x.bmod 18446744073709551616
def w_8 (x : Int) : Int := x.bmod 256
theorem w_32_id {x : Int} (h1 : -2147483648 ≤ x) (h2 : x < 2147483648) : w_32 x = x := by unfold w_32; exact Int.bmod_eq_of_le (by omega) (by omega)
theorem w_64_id {x : Int} (h1 : -9223372036854775808 ≤ x) (h2 : x < 9223372036854775808) : w_64 x = x := by unfold w_64; exact Int.bmod_eq_of_le (by omega) (by omega)
theorem w_8_id {x : Int} (h1 : -128 ≤ x) (h2 : x < 128) : w_8 x = x := by unfold w_8; exact Int.bmod_eq_of_le (by omega) (by omega)
theorem w_32_r (x : Int) : -2147483648 ≤ w_32 x ∧ w_32 x < 2147483648 := by
  unfold w_32
  have h1 := Int.le_bmod (x := x) (m := 4294967296) (by omega)
  have h2 := Int.bmod_lt (x := x) (m := 4294967296) (by omega)
  omega
theorem w_64_r (x : Int) : -9223372036854775808 ≤ w_64 x ∧ w_64 x < 9223372036854775808 := by
  unfold w_64
  have h1 := Int.le_bmod (x := x) (m := 18446744073709551616) (by omega)
  have h2 := Int.bmod_lt (x := x) (m := 18446744073709551616) (by omega)
  omega
theorem w_8_r (x : Int) : -128 ≤ w_8 x ∧ w_8 x < 128 := by
  unfold w_8
  have h1 := Int.le_bmod (x := x) (m := 256) (by omega)
  have h2 := Int.bmod_lt (x := x) (m := 256) (by omega)
  omega
theorem w_i_int (x : Int) : (Int32.ofInt x).toInt = w_32 x := Int32.toInt_ofInt
theorem w_l_int (x : Int) : (Int64.ofInt x).toInt = w_64 x := Int64.toInt_ofInt
theorem w_i_32 (x : Int) : Int32.ofInt (w_32 x) = Int32.ofInt x := by
  apply Int32.toInt_inj.mp
  rw [w_i_int, w_i_int]
  exact w_32_id (w_32_r x).1 (w_32_r x).2
theorem w_l_64 (x : Int) : Int64.ofInt (w_64 x) = Int64.ofInt x := by
  apply Int64.toInt_inj.mp
  rw [w_l_int, w_l_int]
  exact w_64_id (w_64_r x).1 (w_64_r x).2
theorem w_i_to {a : Int} (h : w_r 0 a) : (Int32.ofInt a).toInt = a := (w_i_int a).trans (w_32_id h.1 h.2)
theorem w_l_to {a : Int} (h : w_r 1 a) : (Int64.ofInt a).toInt = a := (w_l_int a).trans (w_64_id h.1 h.2)
theorem w_i_lt {a b : Int} (ha : w_r 0 a) (hb : w_r 0 b) : Int32.ofInt a < Int32.ofInt b ↔ a < b := by rw [Int32.lt_iff_toInt_lt, w_i_to ha, w_i_to hb]
theorem w_l_lt {a b : Int} (ha : w_r 1 a) (hb : w_r 1 b) : Int64.ofInt a < Int64.ofInt b ↔ a < b := by rw [Int64.lt_iff_toInt_lt, w_l_to ha, w_l_to hb]
theorem w_i_eq {a b : Int} (ha : w_r 0 a) (hb : w_r 0 b) : Int32.ofInt a = Int32.ofInt b ↔ a = b := by rw [← Int32.toInt_inj, w_i_to ha, w_i_to hb]
theorem w_l_eq {a b : Int} (ha : w_r 1 a) (hb : w_r 1 b) : Int64.ofInt a = Int64.ofInt b ↔ a = b := by rw [← Int64.toInt_inj, w_l_to ha, w_l_to hb]
theorem w_r0 : w_r 0 0 := ⟨by decide, by decide⟩
theorem w_i_of (x : Int32) : Int32.ofInt x.toInt = x := Int32.ofInt_toInt x
theorem w_i_rg (x : Int32) : w_r 0 x.toInt := ⟨x.le_toInt, x.toInt_lt⟩
theorem w_l_of (x : Int64) : Int64.ofInt x.toInt = x := Int64.ofInt_toInt x
theorem w_l_rg (x : Int64) : w_r 1 x.toInt := ⟨x.le_toInt, x.toInt_lt⟩
-- bits and quotients: by the machine's own words; what they are of small numbers, further below
def w_and (a b : Int) : Int := (Int32.ofInt a &&& Int32.ofInt b).toInt
def w_or (a b : Int) : Int := (Int32.ofInt a ||| Int32.ofInt b).toInt
def w_xor (a b : Int) : Int := (Int32.ofInt a ^^^ Int32.ofInt b).toInt
def w_shl (a b : Int) : Int := (Int32.ofInt a <<< (Int32.ofInt b &&& 31)).toInt
def w_shr (a b : Int) : Int := (Int32.ofInt a >>> (Int32.ofInt b &&& 31)).toInt
def w_ushr (a b : Int) : Int := (((Int32.ofInt a).toUInt32 >>> ((Int32.ofInt b).toUInt32 &&& Int32.toUInt32 31)).toInt32).toInt
def w_div (a b : Int) : Int := (Int32.ofInt a / Int32.ofInt b).toInt
def w_rem (a b : Int) : Int := (Int32.ofInt a - Int32.ofInt a / Int32.ofInt b * Int32.ofInt b).toInt
def w_land (a b : Int) : Int := (Int64.ofInt a &&& Int64.ofInt b).toInt
def w_lor (a b : Int) : Int := (Int64.ofInt a ||| Int64.ofInt b).toInt
def w_lxor (a b : Int) : Int := (Int64.ofInt a ^^^ Int64.ofInt b).toInt
def w_lshl (a b : Int) : Int := (Int64.ofInt a <<< ((Int32.ofInt b).toInt64 &&& 63)).toInt
def w_lshr (a b : Int) : Int := (Int64.ofInt a >>> ((Int32.ofInt b).toInt64 &&& 63)).toInt
def w_ldiv (a b : Int) : Int := (Int64.ofInt a / Int64.ofInt b).toInt
def w_lrem (a b : Int) : Int := (Int64.ofInt a - Int64.ofInt a / Int64.ofInt b * Int64.ofInt b).toInt
def w_c16 (a : Int) : Int := ((Int32.ofInt a).toUInt32 % 65536).toInt32.toInt
def w_cmp (a b : Int) : Int := (lg_cmp (Int64.ofInt a) (Int64.ofInt b)).toInt
-- locals
/-- a long that reaches the next place goes -/
def w_kl (o : Option w_V) : Option w_V := match o with
  | some (1, _) => none
  | o => o
theorem w_kl_s {o : Option w_V} {u : w_V} (h : w_kl o = some u) : o = some u ∧ u.1 ≠ 1 := by
  unfold w_kl at h
  split at h
  · cases h
  · rename_i h1
    refine ⟨h, fun q => ?_⟩
    obtain ⟨t, a⟩ := u
    subst q
    exact h1 a h
def w_s1 : List (Option w_V) → Nat → w_V → List (Option w_V)
  | [], _, _ => []
  | _ :: r, 0, v => some v :: r
  | o :: r, 1, v => w_kl o :: w_s1 r 0 v
  | o :: r, i + 2, v => o :: w_s1 r (i + 1) v
def w_s2 : List (Option w_V) → Nat → w_V → List (Option w_V)
  | [], _, _ => []
  | [_], 0, v => [some v]
  | _ :: _ :: r, 0, v => some v :: none :: r
  | o :: r, 1, v => w_kl o :: w_s2 r 0 v
  | o :: r, i + 2, v => o :: w_s2 r (i + 1) v
theorem w_cat (v : w_V) : (w_cv v).category = if v.1 = 1 then 2 else 1 := by
  obtain ⟨t, a⟩ := v
  unfold w_cv
  match t with
  | 0 => rfl
  | 1 => rfl
  | 2 => rfl
  | n + 3 => simp [Value.category]
theorem w_s1_get {v : w_V} : ∀ (lv : List (Option w_V)) (i j : Nat) (u : w_V), (w_s1 lv i v)[j]? = some (some u) → (j = i ∧ u = v) ∨ (j ≠ i ∧ lv[j]? = some (some u) ∧ (j + 1 = i → u.1 ≠ 1)) := by
  intro lv
  induction lv with
  | nil => intro i j u h; cases i <;> simp [w_s1] at h
  | cons o r ih =>
    intro i j u h
    match i, j, h with
    | 0, 0, h => cases h; exact Or.inl ⟨rfl, rfl⟩
    | 0, j + 1, h => exact Or.inr ⟨by omega, h, fun q => by omega⟩
    | 1, 0, h =>
      have h2 := w_kl_s (Option.some.inj (show some (w_kl o) = some (some u) from h))
      exact Or.inr ⟨by omega, congrArg some h2.1, fun _ => h2.2⟩
    | 1, j + 1, h =>
      rcases ih 0 j u h with h | h
      · exact Or.inl ⟨by omega, h.2⟩
      · exact Or.inr ⟨by omega, h.2.1, fun q => by omega⟩
    | i + 2, 0, h => exact Or.inr ⟨by omega, h, fun q => by omega⟩
    | i + 2, j + 1, h =>
      rcases ih (i + 1) j u h with h | h
      · exact Or.inl ⟨by omega, h.2⟩
      · exact Or.inr ⟨by omega, h.2.1, fun q => h.2.2 (by omega)⟩
theorem w_s2_get {v : w_V} : ∀ (lv : List (Option w_V)) (i j : Nat) (u : w_V), (w_s2 lv i v)[j]? = some (some u) → (j = i ∧ u = v) ∨ (j ≠ i ∧ j ≠ i + 1 ∧ lv[j]? = some (some u) ∧ (j + 1 = i → u.1 ≠ 1)) := by
  intro lv
  induction lv with
  | nil => intro i j u h; cases i <;> simp [w_s2] at h
  | cons o r ih =>
    intro i j u h
    match i, j, h with
    | 0, 0, h =>
      cases r with
      | nil => cases h; exact Or.inl ⟨rfl, rfl⟩
      | cons q r => cases h; exact Or.inl ⟨rfl, rfl⟩
    | 0, 1, h =>
      cases r with
      | nil => cases h
      | cons q r => cases h
    | 0, j + 2, h =>
      cases r with
      | nil => cases h
      | cons q r => exact Or.inr ⟨by omega, by omega, h, fun q => by omega⟩
    | 1, 0, h =>
      have h2 := w_kl_s (Option.some.inj (show some (w_kl o) = some (some u) by cases r <;> exact h))
      exact Or.inr ⟨by omega, by omega, congrArg some h2.1, fun _ => h2.2⟩
    | 1, j + 1, h =>
      have h : (w_s2 r 0 v)[j]? = some (some u) := by cases r <;> exact h
      rcases ih 0 j u h with h | h
      · exact Or.inl ⟨by omega, h.2⟩
      · exact Or.inr ⟨by omega, by omega, h.2.2.1, fun q => by omega⟩
    | i + 2, 0, h =>
      have h : some o = some (some u) := by cases r <;> exact h
      exact Or.inr ⟨by omega, by omega, h, fun q => by omega⟩
    | i + 2, j + 1, h =>
      have h : (w_s2 r (i + 1) v)[j]? = some (some u) := by cases r <;> exact h
      rcases ih (i + 1) j u h with h | h
      · exact Or.inl ⟨by omega, h.2⟩
      · exact Or.inr ⟨by omega, by omega, h.2.2.1, fun q => h.2.2.2 (by omega)⟩
theorem ex_at_del {i j : Nat} {v : Value} (hj : j ≠ i) (hc : j + 1 = i → v.category ≠ 2) : ∀ (e : ex_V), ex_at e j = some v → ex_at (ex_del e i) j = some v := by
  intro e
  induction e with
  | nil => intro h; cases h
  | cons q r ih =>
    intro h
    have h : (bif Nat.beq q.1 j then some q.2 else ex_at r j) = some v := h
    show ex_at (bif !(Nat.beq q.1 i) && !(Nat.beq (Nat.succ q.1) i && Nat.beq q.2.category 2) then q :: ex_del r i else ex_del r i) j = some v
    cases hb : Nat.beq q.1 j with
    | true =>
      rw [hb] at h
      have h1 := Nat.eq_of_beq_eq_true hb
      have h2 : q.2 = v := Option.some.inj h
      have e1 : Nat.beq q.1 i = false := by
        cases hq : Nat.beq q.1 i with
        | false => rfl
        | true => exact absurd (Nat.eq_of_beq_eq_true hq) (by omega)
      have e2 : (Nat.beq (Nat.succ q.1) i && Nat.beq q.2.category 2) = false := by
        cases hq : Nat.beq (Nat.succ q.1) i with
        | false => rfl
        | true =>
          have h3 : q.1 + 1 = i := Nat.eq_of_beq_eq_true hq
          cases hp : Nat.beq q.2.category 2 with
          | false => rfl
          | true => exact absurd (by rw [← h2]; exact Nat.eq_of_beq_eq_true hp) (hc (by omega))
      rw [e1, e2]
      show (bif Nat.beq q.1 j then some q.2 else ex_at (ex_del r i) j) = some v
      rw [hb]
      exact h
    | false =>
      rw [hb] at h
      have h2 := ih h
      cases (!(Nat.beq q.1 i) && !(Nat.beq (Nat.succ q.1) i && Nat.beq q.2.category 2)) with
      | true =>
        show (bif Nat.beq q.1 j then some q.2 else ex_at (ex_del r i) j) = some v
        rw [hb]
        exact h2
      | false => exact h2
theorem ex_at_del2 {i j : Nat} {v : Value} (hj : j ≠ i) (hj2 : j ≠ i + 1) (hc : j + 1 = i → v.category ≠ 2) : ∀ (e : ex_V), ex_at e j = some v → ex_at (ex_del2 e i) j = some v := by
  intro e
  induction e with
  | nil => intro h; cases h
  | cons q r ih =>
    intro h
    have h : (bif Nat.beq q.1 j then some q.2 else ex_at r j) = some v := h
    show ex_at (bif !(Nat.beq q.1 i) && (!(Nat.beq q.1 (Nat.succ i)) && !(Nat.beq (Nat.succ q.1) i && Nat.beq q.2.category 2)) then q :: ex_del2 r i else ex_del2 r i) j = some v
    cases hb : Nat.beq q.1 j with
    | true =>
      rw [hb] at h
      have h1 := Nat.eq_of_beq_eq_true hb
      have h2 : q.2 = v := Option.some.inj h
      have e1 : Nat.beq q.1 i = false := by
        cases hq : Nat.beq q.1 i with
        | false => rfl
        | true => exact absurd (Nat.eq_of_beq_eq_true hq) (by omega)
      have e3 : Nat.beq q.1 (Nat.succ i) = false := by
        cases hq : Nat.beq q.1 (Nat.succ i) with
        | false => rfl
        | true => exact absurd (Nat.eq_of_beq_eq_true hq) (by omega)
      have e2 : (Nat.beq (Nat.succ q.1) i && Nat.beq q.2.category 2) = false := by
        cases hq : Nat.beq (Nat.succ q.1) i with
        | false => rfl
        | true =>
          have h3 : q.1 + 1 = i := Nat.eq_of_beq_eq_true hq
          cases hp : Nat.beq q.2.category 2 with
          | false => rfl
          | true => exact absurd (by rw [← h2]; exact Nat.eq_of_beq_eq_true hp) (hc (by omega))
      rw [e1, e2, e3]
      show (bif Nat.beq q.1 j then some q.2 else ex_at (ex_del2 r i) j) = some v
      rw [hb]
      exact h
    | false =>
      rw [hb] at h
      have h2 := ih h
      cases (!(Nat.beq q.1 i) && (!(Nat.beq q.1 (Nat.succ i)) && !(Nat.beq (Nat.succ q.1) i && Nat.beq q.2.category 2))) with
      | true =>
        show (bif Nat.beq q.1 j then some q.2 else ex_at (ex_del2 r i) j) = some v
        rw [hb]
        exact h2
      | false => exact h2
theorem ex_at_hd (e : ex_V) (i : Nat) (v : Value) : ex_at ((i, v) :: e) i = some v := by
  show (bif Nat.beq i i then some v else ex_at e i) = some v
  rw [Nat.beq_refl]
  rfl
theorem ex_at_tl (e : ex_V) (i j : Nat) (v : Value) (h : j ≠ i) : ex_at ((i, v) :: e) j = ex_at e j := by
  show (bif Nat.beq i j then some v else ex_at e j) = _
  cases hq : Nat.beq i j with
  | false => rfl
  | true => exact absurd (Nat.eq_of_beq_eq_true hq) (fun q => h q.symm)
theorem w_lv_s1 {lv : List (Option w_V)} {e : ex_V} (h : w_lv lv e) (i : Nat) (v : w_V) : w_lv (w_s1 lv i v) (ex_s1 e i (w_cv v)) := by
  intro j u hj
  rcases w_s1_get lv i j u hj with ⟨h1, h2⟩ | ⟨h1, h2, h3⟩
  · subst h1 h2
    exact ex_at_hd _ _ _
  · unfold ex_s1
    rw [ex_at_tl _ _ _ _ h1]
    exact ex_at_del h1 (fun q => by rw [w_cat, if_neg (h3 q)]; omega) e (h j u h2)
theorem w_lv_s2 {lv : List (Option w_V)} {e : ex_V} (h : w_lv lv e) (i : Nat) (v : w_V) : w_lv (w_s2 lv i v) (ex_s2 e i (w_cv v)) := by
  intro j u hj
  rcases w_s2_get lv i j u hj with ⟨h1, h2⟩ | ⟨h1, h0, h2, h3⟩
  · subst h1 h2
    exact ex_at_hd _ _ _
  · unfold ex_s2
    rw [ex_at_tl _ _ _ _ h1]
    exact ex_at_del2 h1 h0 (fun q => by rw [w_cat, if_neg (h3 q)]; omega) e (h j u h2)
theorem w_nl_s1 {lv : List (Option w_V)} (h : w_nl lv) (i : Nat) {v : w_V} (hv : w_r v.1 v.2) : w_nl (w_s1 lv i v) := by
  intro j u hj
  rcases w_s1_get lv i j u hj with ⟨h1, h2⟩ | ⟨h1, h2, h3⟩
  · rw [h2]; exact hv
  · exact h j u h2
theorem w_nl_s2 {lv : List (Option w_V)} (h : w_nl lv) (i : Nat) {v : w_V} (hv : w_r v.1 v.2) : w_nl (w_s2 lv i v) := by
  intro j u hj
  rcases w_s2_get lv i j u hj with ⟨h1, h2⟩ | ⟨h1, h0, h2, h3⟩
  · rw [h2]; exact hv
  · exact h j u h2
theorem w_ns1 {v : w_V} {st : List w_V} (h : w_ns (v :: st)) : w_r v.1 v.2 := h v List.mem_cons_self
theorem w_nst {v : w_V} {st : List w_V} (h : w_ns (v :: st)) : w_ns st := fun u hu => h u (List.mem_cons_of_mem _ hu)
theorem w_nsc {v : w_V} {st : List w_V} (h : w_r v.1 v.2) (hs : w_ns st) : w_ns (v :: st) := fun u hu => (List.mem_cons.mp hu).elim (fun e => e ▸ h) (hs u)
theorem w_ite {c : Prop} [Decidable c] {X Y A B : Prop} (h : if c then X else Y) (hx : X → A) (hy : Y → B) : if c then A else B := by
  split
  · rename_i q; rw [if_pos q] at h; exact hx h
  · rename_i q; rw [if_neg q] at h; exact hy h
section WS
variable {G : w_G} {d t pc nx x y z : Nat} {M : ex_M} {m : w_M} {lv lv' : List (Option w_V)} {st : List w_V} {Q : Int → w_M → Prop} {a b c : Int}
theorem w_iconst {n : Int} (hc : ex_cd M.2.2.2.2 pc = some (.iconst n, x, y, z, nx)) (hr : -2147483648 ≤ n ∧ n < 2147483648) (h : w_W G d M t nx lv ((0, n) :: st) m Q) : w_W G d M t pc lv st m Q :=
  w_goS hc (fun _ _ s => w_nsc (show w_r 0 n from hr) s) (fun _ _ _ e _ => rfl) h
theorem w_b_eq {n : Int} (h : -128 ≤ n ∧ n < 128) : (Int8.ofInt n).toInt32 = Int32.ofInt n := by
  apply Int32.toInt_inj.mp
  rw [w_i_int, w_32_id (by omega) (by omega), Int8.toInt_toInt32, Int8.toInt_ofInt]
  exact Int.bmod_eq_of_le (by have : Int8.size = 256 := rfl; omega) (by have : Int8.size = 256 := rfl; omega)
theorem w_h_eq {n : Int} (h : -32768 ≤ n ∧ n < 32768) : (Int16.ofInt n).toInt32 = Int32.ofInt n := by
  apply Int32.toInt_inj.mp
  rw [w_i_int, w_32_id (by omega) (by omega), Int16.toInt_toInt32, Int16.toInt_ofInt]
  exact Int.bmod_eq_of_le (by have : Int16.size = 65536 := rfl; omega) (by have : Int16.size = 65536 := rfl; omega)
theorem w_bipush {n : Int} (hc : ex_cd M.2.2.2.2 pc = some (.bipush n, x, y, z, nx)) (hr : -128 ≤ n ∧ n < 128) (h : w_W G d M t nx lv ((0, n) :: st) m Q) : w_W G d M t pc lv st m Q :=
  w_goS hc (fun _ _ s => w_nsc (show w_r 0 n from ⟨by omega, by omega⟩) s) (fun _ _ _ e _ => by
    show ex_go nx e (.int (Int8.ofInt n).toInt32 :: _) _ = _
    rw [w_b_eq hr]
    rfl) h
theorem w_sipush {n : Int} (hc : ex_cd M.2.2.2.2 pc = some (.sipush n, x, y, z, nx)) (hr : -32768 ≤ n ∧ n < 32768) (h : w_W G d M t nx lv ((0, n) :: st) m Q) : w_W G d M t pc lv st m Q :=
  w_goS hc (fun _ _ s => w_nsc (show w_r 0 n from ⟨by omega, by omega⟩) s) (fun _ _ _ e _ => by
    show ex_go nx e (.int (Int16.ofInt n).toInt32 :: _) _ = _
    rw [w_h_eq hr]
    rfl) h
theorem w_lconst {n : Fin 2} (hc : ex_cd M.2.2.2.2 pc = some (.lconst n, x, y, z, nx)) (hv : (n.val : Int) = a) (h : w_W G d M t nx lv ((1, a) :: st) m Q) : w_W G d M t pc lv st m Q :=
  w_goS hc (fun _ _ s => w_nsc (show w_r 1 a from ⟨by omega, by omega⟩) s) (fun _ _ _ e _ => by
    show ex_go nx e (.long (Int64.ofNat (n : Nat)) :: _) _ = some (.inl (nx, e, .long (Int64.ofInt a) :: _, _))
    rw [← hv, Int64.ofInt_eq_ofNat]
    rfl) h
theorem w_ldc {i : Nat} (hc : ex_cd M.2.2.2.2 pc = some (.ldc i, x, 0, z, nx)) (hv : Int32.ofNat x = Int32.ofInt a) (hr : -2147483648 ≤ a ∧ a < 2147483648) (h : w_W G d M t nx lv ((0, a) :: st) m Q) : w_W G d M t pc lv st m Q :=
  w_goS hc (fun _ _ s => w_nsc (show w_r 0 a from hr) s) (fun _ _ _ e _ => by
    show ex_go nx e (.int (Int32.ofNat x) :: _) _ = _
    rw [hv]
    rfl) h
theorem w_ldcR {i : Nat} (hc : ex_cd M.2.2.2.2 pc = some (.ldc i, x, 1, z, nx)) (h : w_W G d M t nx lv ((2, (x : Int)) :: st) m Q) : w_W G d M t pc lv st m Q :=
  w_goS hc (fun _ _ s => w_nsc (show w_r 2 _ from Int.natCast_nonneg x) s) (fun _ _ _ e _ => rfl) h
theorem w_ldcT {i : Nat} (hc : ex_cd M.2.2.2.2 pc = some (.ldc i, x, 2, z, nx)) (h : w_W G d M t nx lv ((3, 0) :: st) m Q) : w_W G d M t pc lv st m Q :=
  w_goS hc (fun _ _ s => w_nsc (show w_r 3 0 from Int.le_refl 0) s) (fun _ _ _ e _ => rfl) h
theorem w_ldcw {i : Nat} (hc : ex_cd M.2.2.2.2 pc = some (.ldc_w i, x, 0, z, nx)) (hv : Int32.ofNat x = Int32.ofInt a) (hr : -2147483648 ≤ a ∧ a < 2147483648) (h : w_W G d M t nx lv ((0, a) :: st) m Q) : w_W G d M t pc lv st m Q :=
  w_goS hc (fun _ _ s => w_nsc (show w_r 0 a from hr) s) (fun _ _ _ e _ => by
    show ex_go nx e (.int (Int32.ofNat x) :: _) _ = _
    rw [hv]
    rfl) h
theorem w_ldcwR {i : Nat} (hc : ex_cd M.2.2.2.2 pc = some (.ldc_w i, x, 1, z, nx)) (h : w_W G d M t nx lv ((2, (x : Int)) :: st) m Q) : w_W G d M t pc lv st m Q :=
  w_goS hc (fun _ _ s => w_nsc (show w_r 2 _ from Int.natCast_nonneg x) s) (fun _ _ _ e _ => rfl) h
theorem w_ldcwT {i : Nat} (hc : ex_cd M.2.2.2.2 pc = some (.ldc_w i, x, 2, z, nx)) (h : w_W G d M t nx lv ((3, 0) :: st) m Q) : w_W G d M t pc lv st m Q :=
  w_goS hc (fun _ _ s => w_nsc (show w_r 3 0 from Int.le_refl 0) s) (fun _ _ _ e _ => rfl) h
theorem w_gets {i : Nat} (hc : ex_cd M.2.2.2.2 pc = some (.getstatic i, x, 0, z, nx)) (hv : Int32.ofNat x = Int32.ofInt a) (hr : -2147483648 ≤ a ∧ a < 2147483648) (h : w_W G d M t nx lv ((0, a) :: st) m Q) : w_W G d M t pc lv st m Q :=
  w_goS hc (fun _ _ s => w_nsc (show w_r 0 a from hr) s) (fun _ _ _ e _ => by
    show ex_go nx e (.int (Int32.ofNat x) :: _) _ = _
    rw [hv]
    rfl) h
theorem w_getsR {i : Nat} (hc : ex_cd M.2.2.2.2 pc = some (.getstatic i, x, 1, z, nx)) (h : w_W G d M t nx lv ((2, (x : Int)) :: st) m Q) : w_W G d M t pc lv st m Q :=
  w_goS hc (fun _ _ s => w_nsc (show w_r 2 _ from Int.natCast_nonneg x) s) (fun _ _ _ e _ => rfl) h
theorem w_getsT {i : Nat} (hc : ex_cd M.2.2.2.2 pc = some (.getstatic i, x, 2, z, nx)) (h : w_W G d M t nx lv ((3, 0) :: st) m Q) : w_W G d M t pc lv st m Q :=
  w_goS hc (fun _ _ s => w_nsc (show w_r 3 0 from Int.le_refl 0) s) (fun _ _ _ e _ => rfl) h
theorem w_ldc2 {i : Nat} (hc : ex_cd M.2.2.2.2 pc = some (.ldc2_w i, x, y, z, nx)) (hv : Int64.ofNat x = Int64.ofInt a) (hr : -9223372036854775808 ≤ a ∧ a < 9223372036854775808) (h : w_W G d M t nx lv ((1, a) :: st) m Q) : w_W G d M t pc lv st m Q :=
  w_goS hc (fun _ _ s => w_nsc (show w_r 1 a from hr) s) (fun _ _ _ e _ => by
    show ex_go nx e (.long (Int64.ofNat x) :: _) _ = _
    rw [hv]
    rfl) h
theorem w_iload {i} (hc : ex_cd M.2.2.2.2 pc = some (.iload i, x, y, z, nx)) (hl : lv[(i : Nat)]? = some (some (0, a))) (h : w_W G d M t nx lv ((0, a) :: st) m Q) : w_W G d M t pc lv st m Q :=
  w_goS hc (fun _ l s => w_nsc (l _ _ hl) s) (fun _ _ _ e l => by
    show ex_ild i nx e _ _ = _
    unfold ex_ild
    rw [l _ _ hl]
    rfl) h
theorem w_iload_n {i} (hc : ex_cd M.2.2.2.2 pc = some (.iload_n i, x, y, z, nx)) (hl : lv[(i : Nat)]? = some (some (0, a))) (h : w_W G d M t nx lv ((0, a) :: st) m Q) : w_W G d M t pc lv st m Q :=
  w_goS hc (fun _ l s => w_nsc (l _ _ hl) s) (fun _ _ _ e l => by
    show ex_ild i nx e _ _ = _
    unfold ex_ild
    rw [l _ _ hl]
    rfl) h
theorem w_lload {i} (hc : ex_cd M.2.2.2.2 pc = some (.lload i, x, y, z, nx)) (hl : lv[(i : Nat)]? = some (some (1, a))) (h : w_W G d M t nx lv ((1, a) :: st) m Q) : w_W G d M t pc lv st m Q :=
  w_goS hc (fun _ l s => w_nsc (l _ _ hl) s) (fun _ _ _ e l => by
    show ex_lld1 i nx e _ _ = _
    unfold ex_lld1
    rw [l _ _ hl]
    rfl) h
theorem w_lload_n {i} (hc : ex_cd M.2.2.2.2 pc = some (.lload_n i, x, y, z, nx)) (hl : lv[(i : Nat)]? = some (some (1, a))) (h : w_W G d M t nx lv ((1, a) :: st) m Q) : w_W G d M t pc lv st m Q :=
  w_goS hc (fun _ l s => w_nsc (l _ _ hl) s) (fun _ _ _ e l => by
    show ex_lld1 i nx e _ _ = _
    unfold ex_lld1
    rw [l _ _ hl]
    rfl) h
theorem w_aload {i} (hc : ex_cd M.2.2.2.2 pc = some (.aload i, x, y, z, nx)) (hl : lv[(i : Nat)]? = some (some (2, a))) (h : w_W G d M t nx lv ((2, a) :: st) m Q) : w_W G d M t pc lv st m Q :=
  w_goS hc (fun _ l s => w_nsc (l _ _ hl) s) (fun _ _ _ e l => by
    show ex_ald i nx e _ _ = _
    unfold ex_ald
    rw [l _ _ hl]
    rfl) h
theorem w_aload_n {i} (hc : ex_cd M.2.2.2.2 pc = some (.aload_n i, x, y, z, nx)) (hl : lv[(i : Nat)]? = some (some (2, a))) (h : w_W G d M t nx lv ((2, a) :: st) m Q) : w_W G d M t pc lv st m Q :=
  w_goS hc (fun _ l s => w_nsc (l _ _ hl) s) (fun _ _ _ e l => by
    show ex_ald i nx e _ _ = _
    unfold ex_ald
    rw [l _ _ hl]
    rfl) h
theorem w_istore {i} (hc : ex_cd M.2.2.2.2 pc = some (.istore i, x, y, z, nx)) (hi : Nat.blt i M.2.2.1 = true) (hl : w_s1 lv (i : Nat) (0, a) = lv') (h : w_W G d M t nx lv' st m Q) : w_W G d M t pc lv ((0, a) :: st) m Q :=
  w_go hc (fun n l s => ⟨n, hl ▸ w_nl_s1 l _ (w_ns1 s), w_nst s⟩) (fun _ => w_ke.rf) (fun _ _ _ e l => ⟨_, hl ▸ w_lv_s1 l _ _, by
    show (bif Nat.blt i M.2.2.1 then _ else none) = _
    rw [hi]
    rfl⟩) h
theorem w_istore_n {i} (hc : ex_cd M.2.2.2.2 pc = some (.istore_n i, x, y, z, nx)) (hi : Nat.blt i M.2.2.1 = true) (hl : w_s1 lv (i : Nat) (0, a) = lv') (h : w_W G d M t nx lv' st m Q) : w_W G d M t pc lv ((0, a) :: st) m Q :=
  w_go hc (fun n l s => ⟨n, hl ▸ w_nl_s1 l _ (w_ns1 s), w_nst s⟩) (fun _ => w_ke.rf) (fun _ _ _ e l => ⟨_, hl ▸ w_lv_s1 l _ _, by
    show (bif Nat.blt i M.2.2.1 then _ else none) = _
    rw [hi]
    rfl⟩) h
theorem w_lstore {i} (hc : ex_cd M.2.2.2.2 pc = some (.lstore i, x, y, z, nx)) (hi : Nat.blt (i + 1) M.2.2.1 = true) (hl : w_s2 lv (i : Nat) (1, a) = lv') (h : w_W G d M t nx lv' st m Q) : w_W G d M t pc lv ((1, a) :: st) m Q :=
  w_go hc (fun n l s => ⟨n, hl ▸ w_nl_s2 l _ (w_ns1 s), w_nst s⟩) (fun _ => w_ke.rf) (fun _ _ _ e l => ⟨_, hl ▸ w_lv_s2 l _ _, by
    show (bif Nat.blt (i + 1) M.2.2.1 then _ else none) = _
    rw [hi]
    rfl⟩) h
theorem w_lstore_n {i} (hc : ex_cd M.2.2.2.2 pc = some (.lstore_n i, x, y, z, nx)) (hi : Nat.blt (i + 1) M.2.2.1 = true) (hl : w_s2 lv (i : Nat) (1, a) = lv') (h : w_W G d M t nx lv' st m Q) : w_W G d M t pc lv ((1, a) :: st) m Q :=
  w_go hc (fun n l s => ⟨n, hl ▸ w_nl_s2 l _ (w_ns1 s), w_nst s⟩) (fun _ => w_ke.rf) (fun _ _ _ e l => ⟨_, hl ▸ w_lv_s2 l _ _, by
    show (bif Nat.blt (i + 1) M.2.2.1 then _ else none) = _
    rw [hi]
    rfl⟩) h
theorem w_astore {i} (hc : ex_cd M.2.2.2.2 pc = some (.astore i, x, y, z, nx)) (hi : Nat.blt i M.2.2.1 = true) (hl : w_s1 lv (i : Nat) (2, a) = lv') (h : w_W G d M t nx lv' st m Q) : w_W G d M t pc lv ((2, a) :: st) m Q :=
  w_go hc (fun n l s => ⟨n, hl ▸ w_nl_s1 l _ (w_ns1 s), w_nst s⟩) (fun _ => w_ke.rf) (fun _ _ _ e l => ⟨_, hl ▸ w_lv_s1 l _ _, by
    show (bif Nat.blt i M.2.2.1 then _ else none) = _
    rw [hi]
    rfl⟩) h
theorem w_astore_n {i} (hc : ex_cd M.2.2.2.2 pc = some (.astore_n i, x, y, z, nx)) (hi : Nat.blt i M.2.2.1 = true) (hl : w_s1 lv (i : Nat) (2, a) = lv') (h : w_W G d M t nx lv' st m Q) : w_W G d M t pc lv ((2, a) :: st) m Q :=
  w_go hc (fun n l s => ⟨n, hl ▸ w_nl_s1 l _ (w_ns1 s), w_nst s⟩) (fun _ => w_ke.rf) (fun _ _ _ e l => ⟨_, hl ▸ w_lv_s1 l _ _, by
    show (bif Nat.blt i M.2.2.1 then _ else none) = _
    rw [hi]
    rfl⟩) h
theorem w_iinc {i : Nat} {n : Int} (hc : ex_cd M.2.2.2.2 pc = some (.iinc i n, x, y, z, nx)) (hi : Nat.blt i M.2.2.1 = true) (hv : lv[i]? = some (some (0, a))) (hl : w_s1 lv i (0, w_32 (a + n)) = lv') (h : w_W G d M t nx lv' st m Q) : w_W G d M t pc lv st m Q :=
  w_go hc (fun n l s => ⟨n, hl ▸ w_nl_s1 l _ (w_32_r _), s⟩) (fun _ => w_ke.rf) (fun _ _ _ e l => ⟨_, hl ▸ w_lv_s1 l _ _, by
    show ex_inc M.2.2.1 i n nx e _ _ = _
    unfold ex_inc
    rw [l _ _ hv]
    show (bif Nat.blt i M.2.2.1 then ex_go nx (ex_s1 e i (.int (ex_add (Int32.ofInt a) (Int32.ofInt n)))) _ _ else none) = some (.inl (nx, ex_s1 e i (.int (Int32.ofInt (w_32 (a + n)))), _, _))
    rw [hi, ex_add_eq, w_i_32, Int32.ofInt_add]
    rfl⟩) h
theorem w_iadd (hc : ex_cd M.2.2.2.2 pc = some (.iadd, x, y, z, nx)) (h : w_W G d M t nx lv ((0, w_32 (a + b)) :: st) m Q) : w_W G d M t pc lv ((0, b) :: (0, a) :: st) m Q :=
  w_goS hc (fun _ _ s => w_nsc (show w_r 0 _ from w_32_r _) (w_nst (w_nst s))) (fun _ _ s e _ => by
    show ex_go nx e (.int (ex_add (Int32.ofInt a) (Int32.ofInt b)) :: _) _ = some (.inl (nx, e, .int (Int32.ofInt (w_32 (a + b))) :: _, _))
    rw [w_i_32, Int32.ofInt_add]
    rfl) h
theorem w_isub (hc : ex_cd M.2.2.2.2 pc = some (.isub, x, y, z, nx)) (h : w_W G d M t nx lv ((0, w_32 (a - b)) :: st) m Q) : w_W G d M t pc lv ((0, b) :: (0, a) :: st) m Q :=
  w_goS hc (fun _ _ s => w_nsc (show w_r 0 _ from w_32_r _) (w_nst (w_nst s))) (fun _ _ s e _ => by
    show ex_go nx e (.int (ex_sub (Int32.ofInt a) (Int32.ofInt b)) :: _) _ = some (.inl (nx, e, .int (Int32.ofInt (w_32 (a - b))) :: _, _))
    rw [w_i_32, Int32.ofInt_sub]
    rfl) h
theorem w_imul (hc : ex_cd M.2.2.2.2 pc = some (.imul, x, y, z, nx)) (h : w_W G d M t nx lv ((0, w_32 (a * b)) :: st) m Q) : w_W G d M t pc lv ((0, b) :: (0, a) :: st) m Q :=
  w_goS hc (fun _ _ s => w_nsc (show w_r 0 _ from w_32_r _) (w_nst (w_nst s))) (fun _ _ s e _ => by
    show ex_go nx e (.int (Int32.ofInt a * Int32.ofInt b) :: _) _ = some (.inl (nx, e, .int (Int32.ofInt (w_32 (a * b))) :: _, _))
    rw [w_i_32, Int32.ofInt_mul]
    rfl) h
theorem w_iand (hc : ex_cd M.2.2.2.2 pc = some (.iand, x, y, z, nx)) (h : w_W G d M t nx lv ((0, w_and a b) :: st) m Q) : w_W G d M t pc lv ((0, b) :: (0, a) :: st) m Q :=
  w_goS hc (fun _ _ s => w_nsc (show w_r 0 _ from w_i_rg _) (w_nst (w_nst s))) (fun _ _ s e _ => by
    show (_ : Option ex_O) = some (.inl (nx, e, .int (Int32.ofInt (w_and a b)) :: _, _))
    unfold w_and
    rw [w_i_of]
    rfl) h
theorem w_ior (hc : ex_cd M.2.2.2.2 pc = some (.ior, x, y, z, nx)) (h : w_W G d M t nx lv ((0, w_or a b) :: st) m Q) : w_W G d M t pc lv ((0, b) :: (0, a) :: st) m Q :=
  w_goS hc (fun _ _ s => w_nsc (show w_r 0 _ from w_i_rg _) (w_nst (w_nst s))) (fun _ _ s e _ => by
    show (_ : Option ex_O) = some (.inl (nx, e, .int (Int32.ofInt (w_or a b)) :: _, _))
    unfold w_or
    rw [w_i_of]
    rfl) h
theorem w_ixor (hc : ex_cd M.2.2.2.2 pc = some (.ixor, x, y, z, nx)) (h : w_W G d M t nx lv ((0, w_xor a b) :: st) m Q) : w_W G d M t pc lv ((0, b) :: (0, a) :: st) m Q :=
  w_goS hc (fun _ _ s => w_nsc (show w_r 0 _ from w_i_rg _) (w_nst (w_nst s))) (fun _ _ s e _ => by
    show (_ : Option ex_O) = some (.inl (nx, e, .int (Int32.ofInt (w_xor a b)) :: _, _))
    unfold w_xor
    rw [w_i_of]
    rfl) h
theorem w_ishl (hc : ex_cd M.2.2.2.2 pc = some (.ishl, x, y, z, nx)) (h : w_W G d M t nx lv ((0, w_shl a b) :: st) m Q) : w_W G d M t pc lv ((0, b) :: (0, a) :: st) m Q :=
  w_goS hc (fun _ _ s => w_nsc (show w_r 0 _ from w_i_rg _) (w_nst (w_nst s))) (fun _ _ s e _ => by
    show (_ : Option ex_O) = some (.inl (nx, e, .int (Int32.ofInt (w_shl a b)) :: _, _))
    unfold w_shl
    rw [w_i_of]
    rfl) h
theorem w_ishr (hc : ex_cd M.2.2.2.2 pc = some (.ishr, x, y, z, nx)) (h : w_W G d M t nx lv ((0, w_shr a b) :: st) m Q) : w_W G d M t pc lv ((0, b) :: (0, a) :: st) m Q :=
  w_goS hc (fun _ _ s => w_nsc (show w_r 0 _ from w_i_rg _) (w_nst (w_nst s))) (fun _ _ s e _ => by
    show (_ : Option ex_O) = some (.inl (nx, e, .int (Int32.ofInt (w_shr a b)) :: _, _))
    unfold w_shr
    rw [w_i_of]
    rfl) h
theorem w_iushr (hc : ex_cd M.2.2.2.2 pc = some (.iushr, x, y, z, nx)) (h : w_W G d M t nx lv ((0, w_ushr a b) :: st) m Q) : w_W G d M t pc lv ((0, b) :: (0, a) :: st) m Q :=
  w_goS hc (fun _ _ s => w_nsc (show w_r 0 _ from w_i_rg _) (w_nst (w_nst s))) (fun _ _ s e _ => by
    show (_ : Option ex_O) = some (.inl (nx, e, .int (Int32.ofInt (w_ushr a b)) :: _, _))
    unfold w_ushr
    rw [w_i_of]
    rfl) h
theorem w_idiv (hc : ex_cd M.2.2.2.2 pc = some (.idiv, x, y, z, nx)) (hz : b ≠ 0) (h : w_W G d M t nx lv ((0, w_div a b) :: st) m Q) : w_W G d M t pc lv ((0, b) :: (0, a) :: st) m Q :=
  w_goS hc (fun _ _ s => w_nsc (show w_r 0 _ from w_i_rg _) (w_nst (w_nst s))) (fun _ _ s e _ => by
    show (bif decide (Int32.ofInt b = 0) then none else _ : Option ex_O) = some (.inl (nx, e, .int (Int32.ofInt (w_div a b)) :: _, _))
    unfold w_div
    rw [w_i_of, show decide (Int32.ofInt b = 0) = false from decide_eq_false (fun q => hz ((w_i_eq (w_ns1 s) w_r0).mp q))]
    rfl) h
theorem w_irem (hc : ex_cd M.2.2.2.2 pc = some (.irem, x, y, z, nx)) (hz : b ≠ 0) (h : w_W G d M t nx lv ((0, w_rem a b) :: st) m Q) : w_W G d M t pc lv ((0, b) :: (0, a) :: st) m Q :=
  w_goS hc (fun _ _ s => w_nsc (show w_r 0 _ from w_i_rg _) (w_nst (w_nst s))) (fun _ _ s e _ => by
    show (bif decide (Int32.ofInt b = 0) then none else _ : Option ex_O) = some (.inl (nx, e, .int (Int32.ofInt (w_rem a b)) :: _, _))
    unfold w_rem
    rw [w_i_of, show decide (Int32.ofInt b = 0) = false from decide_eq_false (fun q => hz ((w_i_eq (w_ns1 s) w_r0).mp q))]
    rfl) h
theorem w_ladd' (hc : ex_cd M.2.2.2.2 pc = some (.ladd, x, y, z, nx)) (h : w_W G d M t nx lv ((1, w_64 (a + b)) :: st) m Q) : w_W G d M t pc lv ((1, b) :: (1, a) :: st) m Q :=
  w_goS hc (fun _ _ s => w_nsc (show w_r 1 _ from w_64_r _) (w_nst (w_nst s))) (fun _ _ s e _ => by
    show ex_go nx e (.long (Int64.ofInt a + Int64.ofInt b) :: _) _ = some (.inl (nx, e, .long (Int64.ofInt (w_64 (a + b))) :: _, _))
    rw [w_l_64, Int64.ofInt_add]
    rfl) h
theorem w_lsub' (hc : ex_cd M.2.2.2.2 pc = some (.lsub, x, y, z, nx)) (h : w_W G d M t nx lv ((1, w_64 (a - b)) :: st) m Q) : w_W G d M t pc lv ((1, b) :: (1, a) :: st) m Q :=
  w_goS hc (fun _ _ s => w_nsc (show w_r 1 _ from w_64_r _) (w_nst (w_nst s))) (fun _ _ s e _ => by
    show ex_go nx e (.long (Int64.ofInt a - Int64.ofInt b) :: _) _ = some (.inl (nx, e, .long (Int64.ofInt (w_64 (a - b))) :: _, _))
    rw [w_l_64, Int64.ofInt_sub]
    rfl) h
theorem w_lmul' (hc : ex_cd M.2.2.2.2 pc = some (.lmul, x, y, z, nx)) (h : w_W G d M t nx lv ((1, w_64 (a * b)) :: st) m Q) : w_W G d M t pc lv ((1, b) :: (1, a) :: st) m Q :=
  w_goS hc (fun _ _ s => w_nsc (show w_r 1 _ from w_64_r _) (w_nst (w_nst s))) (fun _ _ s e _ => by
    show ex_go nx e (.long (Int64.ofInt a * Int64.ofInt b) :: _) _ = some (.inl (nx, e, .long (Int64.ofInt (w_64 (a * b))) :: _, _))
    rw [w_l_64, Int64.ofInt_mul]
    rfl) h
theorem w_land' (hc : ex_cd M.2.2.2.2 pc = some (.land, x, y, z, nx)) (h : w_W G d M t nx lv ((1, w_land a b) :: st) m Q) : w_W G d M t pc lv ((1, b) :: (1, a) :: st) m Q :=
  w_goS hc (fun _ _ s => w_nsc (show w_r 1 _ from w_l_rg _) (w_nst (w_nst s))) (fun _ _ s e _ => by
    show (_ : Option ex_O) = some (.inl (nx, e, .long (Int64.ofInt (w_land a b)) :: _, _))
    unfold w_land
    rw [w_l_of]
    rfl) h
theorem w_lor' (hc : ex_cd M.2.2.2.2 pc = some (.lor, x, y, z, nx)) (h : w_W G d M t nx lv ((1, w_lor a b) :: st) m Q) : w_W G d M t pc lv ((1, b) :: (1, a) :: st) m Q :=
  w_goS hc (fun _ _ s => w_nsc (show w_r 1 _ from w_l_rg _) (w_nst (w_nst s))) (fun _ _ s e _ => by
    show (_ : Option ex_O) = some (.inl (nx, e, .long (Int64.ofInt (w_lor a b)) :: _, _))
    unfold w_lor
    rw [w_l_of]
    rfl) h
theorem w_lxor' (hc : ex_cd M.2.2.2.2 pc = some (.lxor, x, y, z, nx)) (h : w_W G d M t nx lv ((1, w_lxor a b) :: st) m Q) : w_W G d M t pc lv ((1, b) :: (1, a) :: st) m Q :=
  w_goS hc (fun _ _ s => w_nsc (show w_r 1 _ from w_l_rg _) (w_nst (w_nst s))) (fun _ _ s e _ => by
    show (_ : Option ex_O) = some (.inl (nx, e, .long (Int64.ofInt (w_lxor a b)) :: _, _))
    unfold w_lxor
    rw [w_l_of]
    rfl) h
theorem w_lshl' (hc : ex_cd M.2.2.2.2 pc = some (.lshl, x, y, z, nx)) (h : w_W G d M t nx lv ((1, w_lshl a b) :: st) m Q) : w_W G d M t pc lv ((0, b) :: (1, a) :: st) m Q :=
  w_goS hc (fun _ _ s => w_nsc (show w_r 1 _ from w_l_rg _) (w_nst (w_nst s))) (fun _ _ s e _ => by
    show (_ : Option ex_O) = some (.inl (nx, e, .long (Int64.ofInt (w_lshl a b)) :: _, _))
    unfold w_lshl
    rw [w_l_of]
    rfl) h
theorem w_lshr' (hc : ex_cd M.2.2.2.2 pc = some (.lshr, x, y, z, nx)) (h : w_W G d M t nx lv ((1, w_lshr a b) :: st) m Q) : w_W G d M t pc lv ((0, b) :: (1, a) :: st) m Q :=
  w_goS hc (fun _ _ s => w_nsc (show w_r 1 _ from w_l_rg _) (w_nst (w_nst s))) (fun _ _ s e _ => by
    show (_ : Option ex_O) = some (.inl (nx, e, .long (Int64.ofInt (w_lshr a b)) :: _, _))
    unfold w_lshr
    rw [w_l_of]
    rfl) h
theorem w_ldiv' (hc : ex_cd M.2.2.2.2 pc = some (.ldiv, x, y, z, nx)) (hz : b ≠ 0) (h : w_W G d M t nx lv ((1, w_ldiv a b) :: st) m Q) : w_W G d M t pc lv ((1, b) :: (1, a) :: st) m Q :=
  w_goS hc (fun _ _ s => w_nsc (show w_r 1 _ from w_l_rg _) (w_nst (w_nst s))) (fun _ _ s e _ => by
    show (bif decide (Int64.ofInt b = 0) then none else _ : Option ex_O) = some (.inl (nx, e, .long (Int64.ofInt (w_ldiv a b)) :: _, _))
    unfold w_ldiv
    rw [w_l_of, show decide (Int64.ofInt b = 0) = false from decide_eq_false (fun q => hz ((w_l_eq (w_ns1 s) (show w_r 1 0 from ⟨by decide, by decide⟩)).mp q))]
    rfl) h
theorem w_lrem' (hc : ex_cd M.2.2.2.2 pc = some (.lrem, x, y, z, nx)) (hz : b ≠ 0) (h : w_W G d M t nx lv ((1, w_lrem a b) :: st) m Q) : w_W G d M t pc lv ((1, b) :: (1, a) :: st) m Q :=
  w_goS hc (fun _ _ s => w_nsc (show w_r 1 _ from w_l_rg _) (w_nst (w_nst s))) (fun _ _ s e _ => by
    show (bif decide (Int64.ofInt b = 0) then none else _ : Option ex_O) = some (.inl (nx, e, .long (Int64.ofInt (w_lrem a b)) :: _, _))
    unfold w_lrem
    rw [w_l_of, show decide (Int64.ofInt b = 0) = false from decide_eq_false (fun q => hz ((w_l_eq (w_ns1 s) (show w_r 1 0 from ⟨by decide, by decide⟩)).mp q))]
    rfl) h
theorem w_ineg (hc : ex_cd M.2.2.2.2 pc = some (.ineg, x, y, z, nx)) (h : w_W G d M t nx lv ((0, w_32 (-a)) :: st) m Q) : w_W G d M t pc lv ((0, a) :: st) m Q :=
  w_goS hc (fun _ _ s => w_nsc (show w_r 0 _ from w_32_r _) (w_nst s)) (fun _ _ s e _ => by
    show ex_go nx e (.int (-Int32.ofInt a) :: _) _ = some (.inl (nx, e, .int (Int32.ofInt (w_32 (-a))) :: _, _))
    rw [w_i_32, Int32.ofInt_neg]
    rfl) h
theorem w_lneg (hc : ex_cd M.2.2.2.2 pc = some (.lneg, x, y, z, nx)) (h : w_W G d M t nx lv ((1, w_64 (-a)) :: st) m Q) : w_W G d M t pc lv ((1, a) :: st) m Q :=
  w_goS hc (fun _ _ s => w_nsc (show w_r 1 _ from w_64_r _) (w_nst s)) (fun _ _ s e _ => by
    show ex_go nx e (.long (-Int64.ofInt a) :: _) _ = some (.inl (nx, e, .long (Int64.ofInt (w_64 (-a))) :: _, _))
    rw [w_l_64, Int64.ofInt_neg]
    rfl) h
theorem w_i2l (hc : ex_cd M.2.2.2.2 pc = some (.i2l, x, y, z, nx)) (h : w_W G d M t nx lv ((1, a) :: st) m Q) : w_W G d M t pc lv ((0, a) :: st) m Q :=
  w_goS hc (fun _ _ s => w_nsc (show w_r 1 _ from (by have := w_ns1 s; exact ⟨by have := this.1; omega, by have := this.2; omega⟩)) (w_nst s)) (fun _ _ s e _ => by
    show ex_go nx e (.long (Int32.ofInt a).toInt64 :: _) _ = some (.inl (nx, e, .long (Int64.ofInt a) :: _, _))
    have ha := w_ns1 s
    rw [show (Int32.ofInt a).toInt64 = Int64.ofInt a from Int64.toInt_inj.mp (by rw [Int32.toInt_toInt64, w_i_to ha, w_l_to ⟨by have := ha.1; omega, by have := ha.2; omega⟩])]
    rfl) h
theorem w_l2i (hc : ex_cd M.2.2.2.2 pc = some (.l2i, x, y, z, nx)) (h : w_W G d M t nx lv ((0, w_32 a) :: st) m Q) : w_W G d M t pc lv ((1, a) :: st) m Q :=
  w_goS hc (fun _ _ s => w_nsc (show w_r 0 _ from w_32_r _) (w_nst s)) (fun _ _ s e _ => by
    show ex_go nx e (.int (Int64.ofInt a).toInt32 :: _) _ = some (.inl (nx, e, .int (Int32.ofInt (w_32 a)) :: _, _))
    rw [w_i_32, Int64.toInt32_ofInt]
    rfl) h
theorem w_i2b (hc : ex_cd M.2.2.2.2 pc = some (.i2b, x, y, z, nx)) (h : w_W G d M t nx lv ((0, w_8 a) :: st) m Q) : w_W G d M t pc lv ((0, a) :: st) m Q :=
  w_goS hc (fun _ _ s => w_nsc (show w_r 0 _ from (by have := w_8_r a; exact ⟨by omega, by omega⟩)) (w_nst s)) (fun _ _ s e _ => by
    show ex_go nx e (.int (Int32.ofInt a).toInt8.toInt32 :: _) _ = some (.inl (nx, e, .int (Int32.ofInt (w_8 a)) :: _, _))
    rw [Int32.toInt8_ofInt, show (Int8.ofInt a).toInt32 = Int32.ofInt (w_8 a) from Int32.toInt_inj.mp (by rw [Int8.toInt_toInt32, Int8.toInt_ofInt, w_i_to (by have := w_8_r a; exact ⟨by omega, by omega⟩)]; rfl)]
    rfl) h
theorem w_i2c (hc : ex_cd M.2.2.2.2 pc = some (.i2c, x, y, z, nx)) (h : w_W G d M t nx lv ((0, w_c16 a) :: st) m Q) : w_W G d M t pc lv ((0, a) :: st) m Q :=
  w_goS hc (fun _ _ s => w_nsc (show w_r 0 _ from w_i_rg _) (w_nst s)) (fun _ _ s e _ => by
    show ex_go nx e (.int ((Int32.ofInt a).toUInt32 % 65536).toInt32 :: _) _ = some (.inl (nx, e, .int (Int32.ofInt (w_c16 a)) :: _, _))
    unfold w_c16
    rw [w_i_of]
    rfl) h
theorem w_lcmp (hc : ex_cd M.2.2.2.2 pc = some (.lcmp, x, y, z, nx)) (h : w_W G d M t nx lv ((0, w_cmp a b) :: st) m Q) : w_W G d M t pc lv ((1, b) :: (1, a) :: st) m Q :=
  w_goS hc (fun _ _ s => w_nsc (show w_r 0 _ from w_i_rg _) (w_nst (w_nst s))) (fun _ _ s e _ => by
    show ex_go nx e (.int (lg_cmp (Int64.ofInt a) (Int64.ofInt b)) :: _) _ = some (.inl (nx, e, .int (Int32.ofInt (w_cmp a b)) :: _, _))
    unfold w_cmp
    rw [w_i_of]
    rfl) h
theorem w_cmp_v (ha : w_r 1 a) (hb : w_r 1 b) : w_cmp a b = if b < a then 1 else if a = b then 0 else -1 := by
  unfold w_cmp lg_cmp
  by_cases h : b < a
  · rw [if_pos h, if_pos ((w_l_lt hb ha).mpr h)]; rfl
  · rw [if_neg h, if_neg (fun q => h ((w_l_lt hb ha).mp q))]
    by_cases h2 : a = b
    · rw [if_pos h2, if_pos ((w_l_eq ha hb).mpr h2)]; rfl
    · rw [if_neg h2, if_neg (fun q => h2 ((w_l_eq ha hb).mp q))]; rfl
theorem ex_if_t {c : Int32 → Bool} {x nx : Nat} {e : ex_V} {v : Int32} {st : List Value} {h : ex_H} (hc : c v = true) : ex_if c x nx e (.int v :: st) h = ex_go x e st h := by unfold ex_if; simp only [hc]; rfl
theorem ex_if_f {c : Int32 → Bool} {x nx : Nat} {e : ex_V} {v : Int32} {st : List Value} {h : ex_H} (hc : c v = false) : ex_if c x nx e (.int v :: st) h = ex_go nx e st h := by unfold ex_if; simp only [hc]; rfl
theorem ex_ic_t {c : Int32 → Int32 → Bool} {x nx : Nat} {e : ex_V} {v u : Int32} {st : List Value} {h : ex_H} (hc : c u v = true) : ex_ic c x nx e (.int v :: .int u :: st) h = ex_go x e st h := by unfold ex_ic; simp only [hc]; rfl
theorem ex_ic_f {c : Int32 → Int32 → Bool} {x nx : Nat} {e : ex_V} {v u : Int32} {st : List Value} {h : ex_H} (hc : c u v = false) : ex_ic c x nx e (.int v :: .int u :: st) h = ex_go nx e st h := by unfold ex_ic; simp only [hc]; rfl
theorem ex_ac_t {c : Bool} {x nx : Nat} {e : ex_V} {v u : Nat} {st : List Value} {h : ex_H} (hc : Bool.xor c (Nat.beq u v) = true) : ex_ac c x nx e (.ref v :: .ref u :: st) h = ex_go x e st h := by unfold ex_ac; simp only [hc]; rfl
theorem ex_ac_f {c : Bool} {x nx : Nat} {e : ex_V} {v u : Nat} {st : List Value} {h : ex_H} (hc : Bool.xor c (Nat.beq u v) = false) : ex_ac c x nx e (.ref v :: .ref u :: st) h = ex_go nx e st h := by unfold ex_ac; simp only [hc]; rfl
theorem w_bT {b : Bool} {P R : Prop} (h : b = true ↔ P) (hp : P ↔ R) (hr : R) : b = true := h.mpr (hp.mpr hr)
theorem w_bF {b : Bool} {P R : Prop} (h : b = true ↔ P) (hp : P ↔ R) (hr : ¬ R) : b = false := by
  cases hb : b with
  | false => rfl
  | true => exact absurd (hp.mp (h.mp hb)) hr
theorem ex_s_ifeq {g : ex_G} {nL x y z nx pc : Nat} {rt : Option FieldType} {off : Int} {e : ex_V} {st : List Value} {h : ex_H} : ex_step g nL rt (.ifCond .eq off, x, y, z, nx) pc e st h = ex_if ex_eq0 x nx e st h := rfl
theorem w_ifeq {off : Int} (hc : ex_cd M.2.2.2.2 pc = some (.ifCond .eq off, x, y, z, nx)) (h : if a = 0 then w_W G d M t x lv st m Q else w_W G d M t nx lv st m Q) : w_W G d M t pc lv ((0, a) :: st) m Q := by
  intro h1 h2 h3
  by_cases hq : a = 0
  · rw [if_pos hq] at h
    exact w_goS hc (fun _ _ s => w_nst s) (fun _ _ s e _ => ex_s_ifeq.trans ((ex_if_t (w_bT ex_eq0_t (w_i_eq (b := 0) (w_ns1 s) w_r0) hq)).trans rfl)) h h1 h2 h3
  · rw [if_neg hq] at h
    exact w_goS hc (fun _ _ s => w_nst s) (fun _ _ s e _ => ex_s_ifeq.trans ((ex_if_f (w_bF ex_eq0_t (w_i_eq (b := 0) (w_ns1 s) w_r0) hq)).trans rfl)) h h1 h2 h3
theorem ex_s_ifne {g : ex_G} {nL x y z nx pc : Nat} {rt : Option FieldType} {off : Int} {e : ex_V} {st : List Value} {h : ex_H} : ex_step g nL rt (.ifCond .ne off, x, y, z, nx) pc e st h = ex_if ex_ne0 x nx e st h := rfl
theorem w_ifne {off : Int} (hc : ex_cd M.2.2.2.2 pc = some (.ifCond .ne off, x, y, z, nx)) (h : if a = 0 then w_W G d M t nx lv st m Q else w_W G d M t x lv st m Q) : w_W G d M t pc lv ((0, a) :: st) m Q := by
  intro h1 h2 h3
  by_cases hq : a = 0
  · rw [if_pos hq] at h
    exact w_goS hc (fun _ _ s => w_nst s) (fun _ _ s e _ => ex_s_ifne.trans ((ex_if_f (w_bF ex_ne0_t (not_congr (w_i_eq (b := 0) (w_ns1 s) w_r0)) (fun q => q hq))).trans rfl)) h h1 h2 h3
  · rw [if_neg hq] at h
    exact w_goS hc (fun _ _ s => w_nst s) (fun _ _ s e _ => ex_s_ifne.trans ((ex_if_t (w_bT ex_ne0_t (not_congr (w_i_eq (b := 0) (w_ns1 s) w_r0)) hq)).trans rfl)) h h1 h2 h3
theorem ex_s_iflt {g : ex_G} {nL x y z nx pc : Nat} {rt : Option FieldType} {off : Int} {e : ex_V} {st : List Value} {h : ex_H} : ex_step g nL rt (.ifCond .lt off, x, y, z, nx) pc e st h = ex_if ex_lt0 x nx e st h := rfl
theorem w_iflt {off : Int} (hc : ex_cd M.2.2.2.2 pc = some (.ifCond .lt off, x, y, z, nx)) (h : if a < 0 then w_W G d M t x lv st m Q else w_W G d M t nx lv st m Q) : w_W G d M t pc lv ((0, a) :: st) m Q := by
  intro h1 h2 h3
  by_cases hq : a < 0
  · rw [if_pos hq] at h
    exact w_goS hc (fun _ _ s => w_nst s) (fun _ _ s e _ => ex_s_iflt.trans ((ex_if_t (w_bT ex_lt0_t (w_i_lt (b := 0) (w_ns1 s) w_r0) hq)).trans rfl)) h h1 h2 h3
  · rw [if_neg hq] at h
    exact w_goS hc (fun _ _ s => w_nst s) (fun _ _ s e _ => ex_s_iflt.trans ((ex_if_f (w_bF ex_lt0_t (w_i_lt (b := 0) (w_ns1 s) w_r0) hq)).trans rfl)) h h1 h2 h3
theorem ex_s_ifge {g : ex_G} {nL x y z nx pc : Nat} {rt : Option FieldType} {off : Int} {e : ex_V} {st : List Value} {h : ex_H} : ex_step g nL rt (.ifCond .ge off, x, y, z, nx) pc e st h = ex_if ex_ge0 x nx e st h := rfl
theorem w_ifge {off : Int} (hc : ex_cd M.2.2.2.2 pc = some (.ifCond .ge off, x, y, z, nx)) (h : if a < 0 then w_W G d M t nx lv st m Q else w_W G d M t x lv st m Q) : w_W G d M t pc lv ((0, a) :: st) m Q := by
  intro h1 h2 h3
  by_cases hq : a < 0
  · rw [if_pos hq] at h
    exact w_goS hc (fun _ _ s => w_nst s) (fun _ _ s e _ => ex_s_ifge.trans ((ex_if_f (w_bF ex_ge0_t (Int32.not_lt.symm.trans (not_congr (w_i_lt (b := 0) (w_ns1 s) w_r0))) (fun q => q hq))).trans rfl)) h h1 h2 h3
  · rw [if_neg hq] at h
    exact w_goS hc (fun _ _ s => w_nst s) (fun _ _ s e _ => ex_s_ifge.trans ((ex_if_t (w_bT ex_ge0_t (Int32.not_lt.symm.trans (not_congr (w_i_lt (b := 0) (w_ns1 s) w_r0))) hq)).trans rfl)) h h1 h2 h3
theorem ex_s_ifgt {g : ex_G} {nL x y z nx pc : Nat} {rt : Option FieldType} {off : Int} {e : ex_V} {st : List Value} {h : ex_H} : ex_step g nL rt (.ifCond .gt off, x, y, z, nx) pc e st h = ex_if ex_gt0 x nx e st h := rfl
theorem w_ifgt {off : Int} (hc : ex_cd M.2.2.2.2 pc = some (.ifCond .gt off, x, y, z, nx)) (h : if 0 < a then w_W G d M t x lv st m Q else w_W G d M t nx lv st m Q) : w_W G d M t pc lv ((0, a) :: st) m Q := by
  intro h1 h2 h3
  by_cases hq : 0 < a
  · rw [if_pos hq] at h
    exact w_goS hc (fun _ _ s => w_nst s) (fun _ _ s e _ => ex_s_ifgt.trans ((ex_if_t (w_bT ex_gt0_t (w_i_lt (a := 0) w_r0 (w_ns1 s)) hq)).trans rfl)) h h1 h2 h3
  · rw [if_neg hq] at h
    exact w_goS hc (fun _ _ s => w_nst s) (fun _ _ s e _ => ex_s_ifgt.trans ((ex_if_f (w_bF ex_gt0_t (w_i_lt (a := 0) w_r0 (w_ns1 s)) hq)).trans rfl)) h h1 h2 h3
theorem ex_s_ifle {g : ex_G} {nL x y z nx pc : Nat} {rt : Option FieldType} {off : Int} {e : ex_V} {st : List Value} {h : ex_H} : ex_step g nL rt (.ifCond .le off, x, y, z, nx) pc e st h = ex_if ex_le0 x nx e st h := rfl
theorem w_ifle {off : Int} (hc : ex_cd M.2.2.2.2 pc = some (.ifCond .le off, x, y, z, nx)) (h : if 0 < a then w_W G d M t nx lv st m Q else w_W G d M t x lv st m Q) : w_W G d M t pc lv ((0, a) :: st) m Q := by
  intro h1 h2 h3
  by_cases hq : 0 < a
  · rw [if_pos hq] at h
    exact w_goS hc (fun _ _ s => w_nst s) (fun _ _ s e _ => ex_s_ifle.trans ((ex_if_f (w_bF ex_le0_t (Int32.not_lt.symm.trans (not_congr (w_i_lt (a := 0) w_r0 (w_ns1 s)))) (fun q => q hq))).trans rfl)) h h1 h2 h3
  · rw [if_neg hq] at h
    exact w_goS hc (fun _ _ s => w_nst s) (fun _ _ s e _ => ex_s_ifle.trans ((ex_if_t (w_bT ex_le0_t (Int32.not_lt.symm.trans (not_congr (w_i_lt (a := 0) w_r0 (w_ns1 s)))) hq)).trans rfl)) h h1 h2 h3
theorem ex_s_iceq {g : ex_G} {nL x y z nx pc : Nat} {rt : Option FieldType} {off : Int} {e : ex_V} {st : List Value} {h : ex_H} : ex_step g nL rt (.if_icmp .eq off, x, y, z, nx) pc e st h = ex_ic ex_eq x nx e st h := rfl
theorem w_iceq {off : Int} (hc : ex_cd M.2.2.2.2 pc = some (.if_icmp .eq off, x, y, z, nx)) (h : if a = b then w_W G d M t x lv st m Q else w_W G d M t nx lv st m Q) : w_W G d M t pc lv ((0, b) :: (0, a) :: st) m Q := by
  intro h1 h2 h3
  by_cases hq : a = b
  · rw [if_pos hq] at h
    exact w_goS hc (fun _ _ s => w_nst (w_nst s)) (fun _ _ s e _ => ex_s_iceq.trans ((ex_ic_t (w_bT ex_eq_t (w_i_eq (w_ns1 (w_nst s)) (w_ns1 s)) hq)).trans rfl)) h h1 h2 h3
  · rw [if_neg hq] at h
    exact w_goS hc (fun _ _ s => w_nst (w_nst s)) (fun _ _ s e _ => ex_s_iceq.trans ((ex_ic_f (w_bF ex_eq_t (w_i_eq (w_ns1 (w_nst s)) (w_ns1 s)) hq)).trans rfl)) h h1 h2 h3
theorem ex_s_icne {g : ex_G} {nL x y z nx pc : Nat} {rt : Option FieldType} {off : Int} {e : ex_V} {st : List Value} {h : ex_H} : ex_step g nL rt (.if_icmp .ne off, x, y, z, nx) pc e st h = ex_ic ex_ne x nx e st h := rfl
theorem w_icne {off : Int} (hc : ex_cd M.2.2.2.2 pc = some (.if_icmp .ne off, x, y, z, nx)) (h : if a = b then w_W G d M t nx lv st m Q else w_W G d M t x lv st m Q) : w_W G d M t pc lv ((0, b) :: (0, a) :: st) m Q := by
  intro h1 h2 h3
  by_cases hq : a = b
  · rw [if_pos hq] at h
    exact w_goS hc (fun _ _ s => w_nst (w_nst s)) (fun _ _ s e _ => ex_s_icne.trans ((ex_ic_f (w_bF ex_ne_t (not_congr (w_i_eq (w_ns1 (w_nst s)) (w_ns1 s))) (fun q => q hq))).trans rfl)) h h1 h2 h3
  · rw [if_neg hq] at h
    exact w_goS hc (fun _ _ s => w_nst (w_nst s)) (fun _ _ s e _ => ex_s_icne.trans ((ex_ic_t (w_bT ex_ne_t (not_congr (w_i_eq (w_ns1 (w_nst s)) (w_ns1 s))) hq)).trans rfl)) h h1 h2 h3
theorem ex_s_iclt {g : ex_G} {nL x y z nx pc : Nat} {rt : Option FieldType} {off : Int} {e : ex_V} {st : List Value} {h : ex_H} : ex_step g nL rt (.if_icmp .lt off, x, y, z, nx) pc e st h = ex_ic ex_lt x nx e st h := rfl
theorem w_iclt {off : Int} (hc : ex_cd M.2.2.2.2 pc = some (.if_icmp .lt off, x, y, z, nx)) (h : if a < b then w_W G d M t x lv st m Q else w_W G d M t nx lv st m Q) : w_W G d M t pc lv ((0, b) :: (0, a) :: st) m Q := by
  intro h1 h2 h3
  by_cases hq : a < b
  · rw [if_pos hq] at h
    exact w_goS hc (fun _ _ s => w_nst (w_nst s)) (fun _ _ s e _ => ex_s_iclt.trans ((ex_ic_t (w_bT ex_lt_t (w_i_lt (w_ns1 (w_nst s)) (w_ns1 s)) hq)).trans rfl)) h h1 h2 h3
  · rw [if_neg hq] at h
    exact w_goS hc (fun _ _ s => w_nst (w_nst s)) (fun _ _ s e _ => ex_s_iclt.trans ((ex_ic_f (w_bF ex_lt_t (w_i_lt (w_ns1 (w_nst s)) (w_ns1 s)) hq)).trans rfl)) h h1 h2 h3
theorem ex_s_icge {g : ex_G} {nL x y z nx pc : Nat} {rt : Option FieldType} {off : Int} {e : ex_V} {st : List Value} {h : ex_H} : ex_step g nL rt (.if_icmp .ge off, x, y, z, nx) pc e st h = ex_ic ex_ge x nx e st h := rfl
theorem w_icge {off : Int} (hc : ex_cd M.2.2.2.2 pc = some (.if_icmp .ge off, x, y, z, nx)) (h : if a < b then w_W G d M t nx lv st m Q else w_W G d M t x lv st m Q) : w_W G d M t pc lv ((0, b) :: (0, a) :: st) m Q := by
  intro h1 h2 h3
  by_cases hq : a < b
  · rw [if_pos hq] at h
    exact w_goS hc (fun _ _ s => w_nst (w_nst s)) (fun _ _ s e _ => ex_s_icge.trans ((ex_ic_f (w_bF ex_ge_t (Int32.not_lt.symm.trans (not_congr (w_i_lt (w_ns1 (w_nst s)) (w_ns1 s)))) (fun q => q hq))).trans rfl)) h h1 h2 h3
  · rw [if_neg hq] at h
    exact w_goS hc (fun _ _ s => w_nst (w_nst s)) (fun _ _ s e _ => ex_s_icge.trans ((ex_ic_t (w_bT ex_ge_t (Int32.not_lt.symm.trans (not_congr (w_i_lt (w_ns1 (w_nst s)) (w_ns1 s)))) hq)).trans rfl)) h h1 h2 h3
theorem ex_s_icgt {g : ex_G} {nL x y z nx pc : Nat} {rt : Option FieldType} {off : Int} {e : ex_V} {st : List Value} {h : ex_H} : ex_step g nL rt (.if_icmp .gt off, x, y, z, nx) pc e st h = ex_ic ex_gt x nx e st h := rfl
theorem w_icgt {off : Int} (hc : ex_cd M.2.2.2.2 pc = some (.if_icmp .gt off, x, y, z, nx)) (h : if b < a then w_W G d M t x lv st m Q else w_W G d M t nx lv st m Q) : w_W G d M t pc lv ((0, b) :: (0, a) :: st) m Q := by
  intro h1 h2 h3
  by_cases hq : b < a
  · rw [if_pos hq] at h
    exact w_goS hc (fun _ _ s => w_nst (w_nst s)) (fun _ _ s e _ => ex_s_icgt.trans ((ex_ic_t (w_bT ex_gt_t (w_i_lt (w_ns1 s) (w_ns1 (w_nst s))) hq)).trans rfl)) h h1 h2 h3
  · rw [if_neg hq] at h
    exact w_goS hc (fun _ _ s => w_nst (w_nst s)) (fun _ _ s e _ => ex_s_icgt.trans ((ex_ic_f (w_bF ex_gt_t (w_i_lt (w_ns1 s) (w_ns1 (w_nst s))) hq)).trans rfl)) h h1 h2 h3
theorem ex_s_icle {g : ex_G} {nL x y z nx pc : Nat} {rt : Option FieldType} {off : Int} {e : ex_V} {st : List Value} {h : ex_H} : ex_step g nL rt (.if_icmp .le off, x, y, z, nx) pc e st h = ex_ic ex_le x nx e st h := rfl
theorem w_icle {off : Int} (hc : ex_cd M.2.2.2.2 pc = some (.if_icmp .le off, x, y, z, nx)) (h : if b < a then w_W G d M t nx lv st m Q else w_W G d M t x lv st m Q) : w_W G d M t pc lv ((0, b) :: (0, a) :: st) m Q := by
  intro h1 h2 h3
  by_cases hq : b < a
  · rw [if_pos hq] at h
    exact w_goS hc (fun _ _ s => w_nst (w_nst s)) (fun _ _ s e _ => ex_s_icle.trans ((ex_ic_f (w_bF ex_le_t (Int32.not_lt.symm.trans (not_congr (w_i_lt (w_ns1 s) (w_ns1 (w_nst s))))) (fun q => q hq))).trans rfl)) h h1 h2 h3
  · rw [if_neg hq] at h
    exact w_goS hc (fun _ _ s => w_nst (w_nst s)) (fun _ _ s e _ => ex_s_icle.trans ((ex_ic_t (w_bT ex_le_t (Int32.not_lt.symm.trans (not_congr (w_i_lt (w_ns1 s) (w_ns1 (w_nst s))))) hq)).trans rfl)) h h1 h2 h3
theorem ex_s_aceq {g : ex_G} {nL x y z nx pc : Nat} {rt : Option FieldType} {off : Int} {e : ex_V} {st : List Value} {h : ex_H} : ex_step g nL rt (.if_acmp .eq off, x, y, z, nx) pc e st h = ex_ac false x nx e st h := rfl
theorem w_aceq {off : Int} (hc : ex_cd M.2.2.2.2 pc = some (.if_acmp .eq off, x, y, z, nx)) (h : if a = b then w_W G d M t x lv st m Q else w_W G d M t nx lv st m Q) : w_W G d M t pc lv ((2, b) :: (2, a) :: st) m Q := by
  intro h1 h2 h3
  by_cases hq : a = b
  · rw [if_pos hq] at h
    exact w_goS hc (fun _ _ s => w_nst (w_nst s)) (fun _ _ s e _ => ex_s_aceq.trans ((ex_ac_t ((by have h5 : 0 ≤ b := w_ns1 s; have h6 : 0 ≤ a := w_ns1 (w_nst s); rw [hq, Nat.beq_refl]; rfl))).trans rfl)) h h1 h2 h3
  · rw [if_neg hq] at h
    exact w_goS hc (fun _ _ s => w_nst (w_nst s)) (fun _ _ s e _ => ex_s_aceq.trans ((ex_ac_f ((by have h5 : 0 ≤ b := w_ns1 s; have h6 : 0 ≤ a := w_ns1 (w_nst s); rw [show Nat.beq a.toNat b.toNat = false by (cases hb : Nat.beq a.toNat b.toNat with | false => rfl | true => exact absurd (Nat.eq_of_beq_eq_true hb) (by omega))]; rfl))).trans rfl)) h h1 h2 h3
theorem ex_s_acne {g : ex_G} {nL x y z nx pc : Nat} {rt : Option FieldType} {off : Int} {e : ex_V} {st : List Value} {h : ex_H} : ex_step g nL rt (.if_acmp .ne off, x, y, z, nx) pc e st h = ex_ac true x nx e st h := rfl
theorem w_acne {off : Int} (hc : ex_cd M.2.2.2.2 pc = some (.if_acmp .ne off, x, y, z, nx)) (h : if a = b then w_W G d M t nx lv st m Q else w_W G d M t x lv st m Q) : w_W G d M t pc lv ((2, b) :: (2, a) :: st) m Q := by
  intro h1 h2 h3
  by_cases hq : a = b
  · rw [if_pos hq] at h
    exact w_goS hc (fun _ _ s => w_nst (w_nst s)) (fun _ _ s e _ => ex_s_acne.trans ((ex_ac_f ((by have h5 : 0 ≤ b := w_ns1 s; have h6 : 0 ≤ a := w_ns1 (w_nst s); rw [hq, Nat.beq_refl]; rfl))).trans rfl)) h h1 h2 h3
  · rw [if_neg hq] at h
    exact w_goS hc (fun _ _ s => w_nst (w_nst s)) (fun _ _ s e _ => ex_s_acne.trans ((ex_ac_t ((by have h5 : 0 ≤ b := w_ns1 s; have h6 : 0 ≤ a := w_ns1 (w_nst s); rw [show Nat.beq a.toNat b.toNat = false by (cases hb : Nat.beq a.toNat b.toNat with | false => rfl | true => exact absurd (Nat.eq_of_beq_eq_true hb) (by omega))]; rfl))).trans rfl)) h h1 h2 h3
theorem w_goto {off : Int} (hc : ex_cd M.2.2.2.2 pc = some (.goto off, x, y, z, nx)) (h : w_W G d M t x lv st m Q) : w_W G d M t pc lv st m Q :=
  w_goS hc (fun _ _ s => s) (fun _ _ _ e _ => rfl) h
theorem w_dup (hc : ex_cd M.2.2.2.2 pc = some (.dup, x, y, z, nx)) {v : w_V} (hv : v.1 ≠ 1) (h : w_W G d M t nx lv (v :: v :: st) m Q) : w_W G d M t pc lv (v :: st) m Q :=
  w_goS hc (fun _ _ s => w_nsc (w_ns1 s) s) (fun _ _ _ e _ => by
    show (bif Nat.beq (w_cv v).category 1 then _ else none) = _
    rw [w_cat, if_neg hv]
    rfl) h
theorem w_dupx1 (hc : ex_cd M.2.2.2.2 pc = some (.dup_x1, x, y, z, nx)) {v u : w_V} (hv : v.1 ≠ 1) (hu : u.1 ≠ 1) (h : w_W G d M t nx lv (v :: u :: v :: st) m Q) : w_W G d M t pc lv (v :: u :: st) m Q :=
  w_goS hc (fun _ _ s => w_nsc (w_ns1 s) (w_nsc (w_ns1 (w_nst s)) (w_nsc (w_ns1 s) (w_nst (w_nst s))))) (fun _ _ _ e _ => by
    show (bif Nat.beq (w_cv v).category 1 && Nat.beq (w_cv u).category 1 then _ else none) = _
    rw [w_cat, w_cat, if_neg hv, if_neg hu]
    rfl) h
theorem w_dup2 (hc : ex_cd M.2.2.2.2 pc = some (.dup2, x, y, z, nx)) {v u : w_V} (hv : v.1 ≠ 1) (hu : u.1 ≠ 1) (h : w_W G d M t nx lv (v :: u :: v :: u :: st) m Q) : w_W G d M t pc lv (v :: u :: st) m Q :=
  w_goS hc (fun _ _ s => w_nsc (w_ns1 s) (w_nsc (w_ns1 (w_nst s)) s)) (fun _ _ _ e _ => by
    show (bif Nat.beq (w_cv v).category 2 then _ else bif Nat.beq (w_cv v).category 1 && Nat.beq (w_cv u).category 1 then _ else none) = _
    rw [w_cat, w_cat, if_neg hv, if_neg hu]
    rfl) h
theorem w_pop (hc : ex_cd M.2.2.2.2 pc = some (.pop, x, y, z, nx)) {v : w_V} (hv : v.1 ≠ 1) (h : w_W G d M t nx lv st m Q) : w_W G d M t pc lv (v :: st) m Q :=
  w_goS hc (fun _ _ s => w_nst s) (fun _ _ _ e _ => by
    show (bif Nat.beq (w_cv v).category 1 then _ else none) = _
    rw [w_cat, if_neg hv]
    rfl) h
end WS
