/-! ===== what the printed regions name ===== -/
def w_mask : List Bool → List (Option w_V) → List (Option w_V)
  | b :: bs, o :: r => (bif b then o else none) :: w_mask bs r
  | _, _ => []
theorem w_sub {lv' : List (Option w_V)} : ∀ (bs : List Bool) {lv : List (Option w_V)}, w_mask bs lv = lv' → ∀ (i : Nat) (v : w_V), lv'[i]? = some (some v) → lv[i]? = some (some v) := by
  intro bs lv h
  subst h
  revert lv
  induction bs with
  | nil => intro lv i v h; cases lv <;> cases h
  | cons b bs ih =>
    intro lv i v h
    cases lv with
    | nil => cases h
    | cons o r =>
      cases i with
      | zero =>
        have h : some (bif b then o else none) = some (some v) := h
        cases b with
        | false => cases h
        | true => exact h
      | succ i => exact ih i v h
def w_isS (a : Int) : Prop := 0 ≤ a ∧ w_sh0 a.toNat = some (.inl (13, [a.toNat + 11, 0, 0, 2]))
theorem w_isS_s {a : Int} (h : w_isS a) : w_sh0 a.toNat = some (.inl (13, [a.toNat + 11, 0, 0, 2])) := h.2
def w_isA (t : Nat) (a : Int) : Prop := ∃ n : Nat, w_sh0 a.toNat = some (.inr (t, n))
def w_isR (a : Int) : Prop := ∃ t n : Nat, w_sh0 a.toNat = some (.inr (t, n)) ∧ t < 5 ∧ n < 2147483648
noncomputable def w_ln (a : Int) : Int := match w_sh0 a.toNat with
  | some (.inr (_, n)) => (n : Int)
  | _ => -1
theorem w_ln_eq {a : Int} {t n : Nat} (h : w_sh0 a.toNat = some (.inr (t, n))) : w_ln a = n := by unfold w_ln; rw [h]
theorem w_isP_ne {a b : Int} (h : w_isP a) (hb : b ≠ 376 ∧ b ≠ 405) : a ≠ b := by rcases h with rfl | rfl; exact fun q => hb.1 q.symm; exact fun q => hb.2 q.symm
theorem w_cpy_ne {m : w_M} {i sp j dp n a b : Int} (h : a ≠ j) : w_cpy m i sp j dp n a b = m a b := by unfold w_cpy; rw [if_neg (fun q => h q.1)]
theorem w_b_ok {a : Int} (h : -128 ≤ a ∧ a < 128) : narrow .byte (.int (Int32.ofInt a)) = .int (Int32.ofInt a) := by
  show Value.int (Int32.ofInt a).toInt8.toInt32 = _
  rw [Int32.toInt8_ofInt, show (Int8.ofInt a).toInt32 = Int32.ofInt a from w_b_eq h]
theorem w_ift {c : Prop} [Decidable c] {A B : Prop} (hc : c) (h : A) : if c then A else B := by rw [if_pos hc]; exact h
theorem w_iff {c : Prop} [Decidable c] {A B : Prop} (hc : ¬ c) (h : B) : if c then A else B := by rw [if_neg hc]; exact h
section WX
variable {S : Nat → Prop} {d t pc nx ci k z : Nat} {M : ex_M} {m : w_M} {lv : List (Option w_V)} {st : List w_V} {Q : Int → w_M → Prop} {a kk v j : Int} {fs : List Nat}
theorem x_gfI {i : Nat} (hc : ex_cd M.2.2.2.2 pc = some (.getfield i, ci, k, z, nx)) (hs : w_sh (w_G0 S) a.toNat = some (.inl (ci, fs))) (hk : fs[k]? = some 0) (he : kk = (k : Int)) (hv : m a kk = v) (h : x_W S d M t nx lv ((0, v) :: st) m Q) : x_W S d M t pc lv ((2, a) :: st) m Q := by
  subst hv
  exact w_gfI hc hs hk he h
theorem x_gfL {i : Nat} (hc : ex_cd M.2.2.2.2 pc = some (.getfield i, ci, k, z, nx)) (hs : w_sh (w_G0 S) a.toNat = some (.inl (ci, fs))) (hk : fs[k]? = some 1) (he : kk = (k : Int)) (hv : m a kk = v) (h : x_W S d M t nx lv ((1, v) :: st) m Q) : x_W S d M t pc lv ((2, a) :: st) m Q := by
  subst hv
  exact w_gfL hc hs hk he h
theorem x_gfZ {i : Nat} (hc : ex_cd M.2.2.2.2 pc = some (.getfield i, ci, k, z, nx)) (hs : w_sh (w_G0 S) a.toNat = some (.inl (ci, fs))) (hk : fs[k]? = some 2) (he : kk = (k : Int)) (hv : m a kk = v) (h : x_W S d M t nx lv ((0, v) :: st) m Q) : x_W S d M t pc lv ((2, a) :: st) m Q := by
  subst hv
  exact w_gfZ hc hs hk he h
theorem x_gfR {i : Nat} (hc : ex_cd M.2.2.2.2 pc = some (.getfield i, ci, k, z, nx)) (hs : w_sh (w_G0 S) a.toNat = some (.inl (ci, fs))) (hk : fs[k]? = some 3) (he : kk = (k : Int)) (hv : m a kk = v) (hg : 0 ≤ v) (h : x_W S d M t nx lv ((2, v) :: st) m Q) : x_W S d M t pc lv ((2, a) :: st) m Q := by
  subst hv
  exact w_gfR hc hs hk he hg h
theorem w_gfS {i : Nat} (hc : ex_cd M.2.2.2.2 pc = some (.getfield i, 13, 0, z, nx)) (hS : w_isS a) (h : x_W S d M t nx lv ((2, a + 1) :: st) m Q) : x_W S d M t pc lv ((2, a) :: st) m Q :=
  w_gfC (c := a.toNat + 1) (v := a + 1) hc hS.2 rfl (by have := hS.1; omega) h
theorem x_iald {x y : Nat} (hc : ex_cd M.2.2.2.2 pc = some (.iaload, x, y, z, nx)) (hA : w_isA 0 a) (hj : 0 ≤ j ∧ j < w_ln a) (h : x_W S d M t nx lv ((0, m a j) :: st) m Q) : x_W S d M t pc lv ((0, j) :: (2, a) :: st) m Q := by
  obtain ⟨n, hn⟩ := hA
  exact w_iald hc hn (w_ln_eq hn) hj h
theorem x_bald {x y : Nat} (hc : ex_cd M.2.2.2.2 pc = some (.baload, x, y, z, nx)) (hA : w_isA 1 a) (hj : 0 ≤ j ∧ j < w_ln a) (h : x_W S d M t nx lv ((0, m a j) :: st) m Q) : x_W S d M t pc lv ((0, j) :: (2, a) :: st) m Q := by
  obtain ⟨n, hn⟩ := hA
  exact w_bald hc hn (w_ln_eq hn) hj h
theorem x_iast {x y : Nat} (hc : ex_cd M.2.2.2.2 pc = some (.iastore, x, y, z, nx)) (hA : w_isA 0 a) (hE : w_wr (w_G0 S) a.toNat) (hj : 0 ≤ j ∧ j < w_ln a) (h : x_W S d M t nx lv st (w_up m a j v) Q) : x_W S d M t pc lv ((0, v) :: (0, j) :: (2, a) :: st) m Q := by
  obtain ⟨n, hn⟩ := hA
  exact w_iast hc hn hE (w_ln_eq hn) hj h
theorem x_bast {x y : Nat} (hc : ex_cd M.2.2.2.2 pc = some (.bastore, x, y, z, nx)) (hA : w_isA 1 a) (hE : w_wr (w_G0 S) a.toNat) (hj : 0 ≤ j ∧ j < w_ln a) (h : x_W S d M t nx lv st (w_up m a j (w_8 v)) Q) : x_W S d M t pc lv ((0, v) :: (0, j) :: (2, a) :: st) m Q := by
  obtain ⟨n, hn⟩ := hA
  exact w_bast hc hn hE (w_ln_eq hn) hj h
theorem x_len {x y : Nat} (hc : ex_cd M.2.2.2.2 pc = some (.arraylength, x, y, z, nx)) (hR : w_isR a) (h : x_W S d M t nx lv ((0, w_ln a) :: st) m Q) : x_W S d M t pc lv ((2, a) :: st) m Q := by
  obtain ⟨u, n, hn, h1, h2⟩ := hR
  exact w_len hc hn h1 (w_ln_eq hn) (by rw [w_ln_eq hn]; omega) h
theorem x_acopy {i y : Nat} {b sp dp n : Int} (hc : ex_cd M.2.2.2.2 pc = some (.invokestatic i, 1000000, y, z, nx)) (hA : w_isA 1 a) (hB : w_isA 1 b) (hEa : 357 ≤ a) (hEb : w_wr (w_G0 S) b.toNat)
    (hw : Nat.ble (ex_w (st.map w_cv)) 8 = true) (hg : 0 ≤ n ∧ 0 ≤ sp ∧ 0 ≤ dp ∧ sp + n ≤ w_ln a ∧ dp + n ≤ w_ln b) (h : x_W S d M t nx lv st (w_cpy m a sp b dp n) Q) : x_W S d M t pc lv ((0, n) :: (0, dp) :: (2, b) :: (0, sp) :: (2, a) :: st) m Q := by
  obtain ⟨na, hna⟩ := hA
  obtain ⟨nb, hnb⟩ := hB
  rw [w_ln_eq hna, w_ln_eq hnb] at hg
  exact w_acopy hc hna hnb (w_E1 hEa) hEb (by decide) hw hg h
theorem w_isS1 {i y : Nat} (hc : ex_cd M.2.2.2.2 pc = some (.instanceof i, 13, y, z, nx)) (hS : w_isS a) (h : x_W S d M t nx lv ((0, 1) :: st) m Q) : x_W S d M t pc lv ((2, a) :: st) m Q := w_isS' hc hS.2 h
theorem w_asS1 {i y : Nat} (hc : ex_cd M.2.2.2.2 pc = some (.checkcast i, 13, y, z, nx)) (hS : w_isS a) (h : x_W S d M t nx lv ((2, a) :: st) m Q) : x_W S d M t pc lv ((2, a) :: st) m Q := w_asS hc hS.2 h
theorem w_tsw_ok (cs : List (Int × Nat)) (offs : Array Int) {lo : Int} {pc : Nat} (h : (cs.map fun q => (q.1, (q.2 : Int) - (pc : Int))) = offs.toList.zipIdx.map fun p => (lo + (p.2 : Nat), p.1)) :
    ∀ i : Nat, i < offs.size → ∃ q ∈ cs, q.1 = lo + i ∧ offs[i]? = some ((q.2 : Int) - (pc : Int)) ∧ ∀ q' ∈ cs, q'.1 = lo + i → q'.2 = q.2 := by
  have key : ∀ j : Nat, (cs[j]?).map (fun q => (q.1, (q.2 : Int) - (pc : Int))) = (offs[j]?).map fun o => (lo + (j : Nat), o) := by
    intro j
    have := congrArg (fun l => l[j]?) h
    simp only [List.getElem?_map, List.getElem?_zipIdx, Array.getElem?_toList] at this
    rw [this]
    cases offs[j]? <;> simp
  intro i hi
  have h1 := key i
  rw [Array.getElem?_eq_getElem hi] at h1
  cases hq : cs[i]? with
  | none => rw [hq] at h1; cases h1
  | some q =>
    rw [hq] at h1
    have h2 : (q.1, (q.2 : Int) - (pc : Int)) = (lo + (i : Nat), offs[i]) := Option.some.inj h1
    have h3 := congrArg Prod.fst h2
    have h4 := congrArg Prod.snd h2
    simp only at h3 h4
    refine ⟨q, List.mem_of_getElem? hq, h3, by rw [Array.getElem?_eq_getElem hi, h4], fun q' hq' he => ?_⟩
    obtain ⟨j, hj⟩ := List.mem_iff_getElem?.mp hq'
    have h5 := key j
    rw [hj] at h5
    cases ho : offs[j]? with
    | none => rw [ho] at h5; cases h5
    | some o =>
      rw [ho] at h5
      have h6 := congrArg Prod.fst (Option.some.inj h5)
      simp only at h6
      have : j = i := by omega
      subst this
      rw [hq] at hj
      cases hj
      rfl
end WX
