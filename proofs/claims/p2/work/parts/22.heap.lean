/-! ===== cells, calls, ends: over plain numbers ===== -/
theorem w_fs_set {m m' : w_M} {i : Int} : ∀ (fs : List Nat) (j k s : Nat) (V : Value), fs[k]? = some s → (∀ q : Nat, q ≠ j + k → m' i q = m i q) → w_fv m' i (j + k) s = V → (w_fs m i j fs).set k V = w_fs m' i j fs := by
  intro fs
  induction fs with
  | nil => intro j k s V h; cases h
  | cons s0 r ih =>
    intro j k s V h hk hv
    cases k with
    | zero =>
      cases h
      show V :: w_fs m i (j + 1) r = w_fv m' i j s0 :: w_fs m' i (j + 1) r
      rw [← hv]
      congr 1
      have : ∀ (l : List Nat) (n : Nat), j < n → w_fs m i n l = w_fs m' i n l := by
        intro l
        induction l with
        | nil => intro n _; rfl
        | cons s1 r1 ih1 =>
          intro n hn
          show w_fv m i n s1 :: _ = w_fv m' i n s1 :: _
          rw [ih1 (n + 1) (by omega)]
          unfold w_fv
          rw [hk n (by omega)]
      exact this r (j + 1) (by omega)
    | succ k =>
      show w_fv m i j s0 :: (w_fs m i (j + 1) r).set k V = w_fv m' i j s0 :: w_fs m' i (j + 1) r
      rw [ih (j + 1) k s V h (fun q hq => hk q (by omega)) (by rw [show j + 1 + k = j + (k + 1) by omega]; exact hv)]
      congr 1
      unfold w_fv
      rw [hk j (by omega)]
section WH
variable {G : w_G} {d t pc nx ci k z : Nat} {M : ex_M} {m : w_M} {lv : List (Option w_V)} {st : List w_V} {Q : Int → w_M → Prop} {a kk v : Int} {fs : List Nat}
theorem w_rn0 {a : Int} (s : w_ns ((2, a) :: st)) : 0 ≤ a := w_ns1 s
theorem w_gf_step {s : Nat} {e : ex_V} (hn : w_nm G m) (h0 : 0 ≤ a) (hs : w_sh G a.toNat = some (.inl (ci, fs))) (hk : fs[k]? = some s) :
    ex_gf (w_g G) ci k nx e (w_cv (2, a) :: st.map w_cv) (w_hp G m) = some (.inl (nx, e, w_fv m a k s :: st.map w_cv, w_hp G m)) := by
  show (match ex_get (w_g G) (w_hp G m) a.toNat with | some (.inl (cj, fs)) => bif Nat.beq ci cj then (match ex_nth fs k with | some v => ex_go nx e (v :: st.map w_cv) (w_hp G m) | none => none) else none | _ => none) = _
  rw [w_get hn hs]
  show (bif Nat.beq ci ci then (match ex_nth (w_fs m (a.toNat : Nat) 0 fs) k with | some v => ex_go nx e (v :: st.map w_cv) (w_hp G m) | none => none) else none) = _
  rw [Nat.beq_refl, ex_nth_eq, w_fs_get, hk, Nat.zero_add, Int.toNat_of_nonneg h0]
  rfl
theorem w_gf_r {s : Nat} (hn : w_nm G m) (h0 : 0 ≤ a) (hs : w_sh G a.toNat = some (.inl (ci, fs))) (hk : fs[k]? = some s) : w_fr s (m a k) := by
  have := hn.1 a.toNat _ hs k s hk
  rw [Int.toNat_of_nonneg h0] at this
  exact this
theorem w_gfI {i : Nat} (hc : ex_cd M.2.2.2.2 pc = some (.getfield i, ci, k, z, nx)) (hs : w_sh G a.toNat = some (.inl (ci, fs))) (hk : fs[k]? = some 0) (he : kk = (k : Int)) (h : w_W G d M t nx lv ((0, m a kk) :: st) m Q) : w_W G d M t pc lv ((2, a) :: st) m Q := by
  subst he
  exact w_goS (nx := nx) (st' := ((0, m a k) :: st)) hc (fun n _ s => w_nsc (show w_r 0 _ from w_gf_r (s := 0) n (w_rn0 s) hs hk) (w_nst s)) (fun n _ s e _ => w_gf_step n (w_rn0 s) hs hk) h
theorem w_gfL {i : Nat} (hc : ex_cd M.2.2.2.2 pc = some (.getfield i, ci, k, z, nx)) (hs : w_sh G a.toNat = some (.inl (ci, fs))) (hk : fs[k]? = some 1) (he : kk = (k : Int)) (h : w_W G d M t nx lv ((1, m a kk) :: st) m Q) : w_W G d M t pc lv ((2, a) :: st) m Q := by
  subst he
  exact w_goS (nx := nx) (st' := ((1, m a k) :: st)) hc (fun n _ s => w_nsc (show w_r 1 _ from w_gf_r (s := 1) n (w_rn0 s) hs hk) (w_nst s)) (fun n _ s e _ => w_gf_step n (w_rn0 s) hs hk) h
theorem w_gfZ {i : Nat} (hc : ex_cd M.2.2.2.2 pc = some (.getfield i, ci, k, z, nx)) (hs : w_sh G a.toNat = some (.inl (ci, fs))) (hk : fs[k]? = some 2) (he : kk = (k : Int)) (h : w_W G d M t nx lv ((0, m a kk) :: st) m Q) : w_W G d M t pc lv ((2, a) :: st) m Q := by
  subst he
  exact w_goS (nx := nx) (st' := ((0, m a k) :: st)) hc (fun n _ s => w_nsc (show w_r 0 _ from by have : 0 ≤ m a k ∧ m a k < 2 := w_gf_r (s := 2) n (w_rn0 s) hs hk; exact ⟨by omega, by omega⟩) (w_nst s)) (fun n _ s e _ => w_gf_step n (w_rn0 s) hs hk) h
theorem w_gfR {i : Nat} (hc : ex_cd M.2.2.2.2 pc = some (.getfield i, ci, k, z, nx)) (hs : w_sh G a.toNat = some (.inl (ci, fs))) (hk : fs[k]? = some 3) (he : kk = (k : Int)) (hg : 0 ≤ m a kk) (h : w_W G d M t nx lv ((2, m a kk) :: st) m Q) : w_W G d M t pc lv ((2, a) :: st) m Q := by
  subst he
  exact w_goS (nx := nx) (st' := ((2, m a k) :: st)) hc (fun n _ s => w_nsc (show w_r 2 _ from hg) (w_nst s)) (fun n _ s e _ => by
    have := w_gf_step (nx := nx) (st := st) (e := e) n (w_rn0 s) hs hk
    rw [show w_fv m a k 3 = w_cv (2, m a k) from if_neg (by omega)] at this
    exact this) h
theorem w_gfC {i c : Nat} (hc : ex_cd M.2.2.2.2 pc = some (.getfield i, ci, k, z, nx)) (hs : w_sh G a.toNat = some (.inl (ci, fs))) (hk : fs[k]? = some (c + 10)) (he : v = (c : Int)) (h : w_W G d M t nx lv ((2, v) :: st) m Q) : w_W G d M t pc lv ((2, a) :: st) m Q := by
  subst he
  exact w_goS (nx := nx) (st' := ((2, (c : Int)) :: st)) hc (fun n _ s => w_nsc (show w_r 2 _ from Int.natCast_nonneg c) (w_nst s)) (fun n _ s e _ => w_gf_step n (w_rn0 s) hs hk) h
theorem w_pf_step {s : Nat} {ty : FieldType} {tv : Nat} {e : ex_V} (h0 : 0 ≤ a) (hs : w_sh G a.toNat = some (.inl (ci, fs))) (hE : w_wr G a.toNat) (hk : fs[k]? = some s) (hty : ex_nth (ex_ft ci) k = some ty) (hf : ex_fit ty (w_cv (tv, v)) = true) (hv : ∀ m' : w_M, m' a k = v → w_fv m' a k s = w_cv (tv, v)) :
    ex_pf (w_g G) (ex_ft ci) ci k nx e (w_cv (tv, v) :: w_cv (2, a) :: st.map w_cv) (w_hp G m) = some (.inl (nx, e, st.map w_cv, w_hp G (w_up m a k v))) := by
  show (match ex_own (w_g G) (w_hp G m) a.toNat with | some (.inl (cj, fs)) => bif Nat.beq ci cj && Nat.blt k fs.length then (match ex_nth (ex_ft ci) k with | some ty => bif ex_fit ty (w_cv (tv, v)) then ex_go nx e (st.map w_cv) (ex_set (w_g G) (w_hp G m) a.toNat (.inl (cj, ex_lset fs k (w_cv (tv, v))))) else none | none => none) else none | _ => none) = _
  rw [w_own hs hE.1]
  show (bif Nat.beq ci ci && Nat.blt k (w_fs m (a.toNat : Nat) 0 fs).length then _ else none) = _
  rw [Nat.beq_refl, w_fs_len, show Nat.blt k fs.length = true from Nat.blt_eq.mpr (List.getElem?_eq_some_iff.mp hk).1, hty]
  show (bif ex_fit ty (w_cv (tv, v)) then ex_go nx e (st.map w_cv) (ex_set (w_g G) (w_hp G m) a.toNat (.inl (ci, ex_lset (w_fs m (a.toNat : Nat) 0 fs) k (w_cv (tv, v))))) else none) = _
  rw [hf, ex_lset_eq]
  show some (Sum.inl (nx, e, st.map w_cv, _)) = _
  congr 5
  have h1 : (w_fs m (a.toNat : Nat) 0 fs).set k (w_cv (tv, v)) = w_fs (w_up m a k v) (a.toNat : Nat) 0 fs := by
    rw [Int.toNat_of_nonneg h0]
    exact w_fs_set fs 0 k s _ hk (fun q hq => w_up_nb (by omega)) (by rw [Nat.zero_add]; exact hv _ w_up_eq)
  rw [h1]
  exact w_set (m' := w_up m a k v) hs hE.1 (fun b j hb => w_up_ne (by omega))
theorem w_pf_nm {s : Nat} (hn : w_nm G m) (h0 : 0 ≤ a) (hs : w_sh G a.toNat = some (.inl (ci, fs))) (hE : w_wr G a.toNat) (hk : fs[k]? = some s) (hr : w_fr s v) : w_nm G (w_up m a k v) := by
  refine w_nm_set hn hs hE.1 (fun b j hb => w_up_ne (by omega)) (fun b j hb => w_up_ne (by omega)) (fun j hj => w_up_nb (fun e => hj (by subst e; exact ⟨by omega, by have := (List.getElem?_eq_some_iff.mp hk).1; omega⟩))) ?_
  show ∀ (q s : Nat), fs[q]? = some s → w_fr s (w_up m a k v (a.toNat : Nat) q)
  intro q s2 hq
  rw [Int.toNat_of_nonneg h0]
  by_cases hqk : q = k
  · subst hqk
    rw [hk] at hq
    cases hq
    rw [w_up_eq]
    exact hr
  · rw [w_up_nb (by omega)]
    have := hn.1 a.toNat _ hs q s2 hq
    rw [Int.toNat_of_nonneg h0] at this
    exact this
theorem w_pfI {i : Nat} (hc : ex_cd M.2.2.2.2 pc = some (.putfield i, ci, k, z, nx)) (hs : w_sh G a.toNat = some (.inl (ci, fs))) (hk : fs[k]? = some 0) (hE : w_wr G a.toNat) (hty : ex_nth (ex_ft ci) k = some .int) (he : kk = (k : Int)) (h : w_W G d M t nx lv st (w_up m a kk v) Q) : w_W G d M t pc lv ((0, v) :: (2, a) :: st) m Q := by
  subst he
  exact w_go hc (fun n l s => ⟨w_pf_nm n (w_rn0 (w_nst s)) hs hE hk (w_ns1 s), l, w_nst (w_nst s)⟩) (fun s => w_ke.on (w_rn0 (w_nst s)) hE (fun b j hb => w_up_ne hb)) (fun n l s e le => ⟨e, le, w_pf_step (tv := 0) (w_rn0 (w_nst s)) hs hE hk hty rfl (fun m' h => by show Value.int (Int32.ofInt (m' a k)) = _; rw [h]; rfl)⟩) h
theorem w_pfL {i : Nat} (hc : ex_cd M.2.2.2.2 pc = some (.putfield i, ci, k, z, nx)) (hs : w_sh G a.toNat = some (.inl (ci, fs))) (hk : fs[k]? = some 1) (hE : w_wr G a.toNat) (hty : ex_nth (ex_ft ci) k = some .long) (he : kk = (k : Int)) (h : w_W G d M t nx lv st (w_up m a kk v) Q) : w_W G d M t pc lv ((1, v) :: (2, a) :: st) m Q := by
  subst he
  exact w_go hc (fun n l s => ⟨w_pf_nm n (w_rn0 (w_nst s)) hs hE hk (w_ns1 s), l, w_nst (w_nst s)⟩) (fun s => w_ke.on (w_rn0 (w_nst s)) hE (fun b j hb => w_up_ne hb)) (fun n l s e le => ⟨e, le, w_pf_step (tv := 1) (w_rn0 (w_nst s)) hs hE hk hty rfl (fun m' h => by show Value.long (Int64.ofInt (m' a k)) = _; rw [h]; rfl)⟩) h
theorem w_pfZ {i : Nat} (hc : ex_cd M.2.2.2.2 pc = some (.putfield i, ci, k, z, nx)) (hs : w_sh G a.toNat = some (.inl (ci, fs))) (hk : fs[k]? = some 2) (hE : w_wr G a.toNat) (hty : ex_nth (ex_ft ci) k = some .boolean) (he : kk = (k : Int)) (hg : v = 0 ∨ v = 1) (h : w_W G d M t nx lv st (w_up m a kk v) Q) : w_W G d M t pc lv ((0, v) :: (2, a) :: st) m Q := by
  subst he
  exact w_go hc (fun n l s => ⟨w_pf_nm n (w_rn0 (w_nst s)) hs hE hk (show 0 ≤ v ∧ v < 2 by omega), l, w_nst (w_nst s)⟩) (fun s => w_ke.on (w_rn0 (w_nst s)) hE (fun b j hb => w_up_ne hb)) (fun n l s e le => ⟨e, le, w_pf_step (tv := 0) (w_rn0 (w_nst s)) hs hE hk hty (by rcases hg with rfl | rfl <;> rfl) (fun m' h => by show Value.int (Int32.ofInt (m' a k)) = _; rw [h]; rfl)⟩) h
theorem w_pfR {i : Nat} {ty : FieldType} (hc : ex_cd M.2.2.2.2 pc = some (.putfield i, ci, k, z, nx)) (hs : w_sh G a.toNat = some (.inl (ci, fs))) (hk : fs[k]? = some 3) (hE : w_wr G a.toNat) (hty : ex_nth (ex_ft ci) k = some ty) (hf : ∀ q : Nat, ex_fit ty (.ref q) = true) (he : kk = (k : Int)) (h : w_W G d M t nx lv st (w_up m a kk v) Q) : w_W G d M t pc lv ((2, v) :: (2, a) :: st) m Q := by
  subst he
  exact w_go hc (fun n l s => ⟨w_pf_nm n (w_rn0 (w_nst s)) hs hE hk (show -1 ≤ v by have : 0 ≤ v := w_ns1 s; omega), l, w_nst (w_nst s)⟩) (fun s => w_ke.on (w_rn0 (w_nst s)) hE (fun b j hb => w_up_ne hb)) (fun n l s e le => ⟨e, le, w_pf_step (tv := 2) (w_rn0 (w_nst s)) hs hE hk hty (hf _) (fun m' h => by
    have h0 : 0 ≤ v := w_ns1 s
    show (if m' a k < 0 then Value.null else Value.ref (m' a k).toNat) = _
    rw [h, if_neg (by omega)]
    rfl)⟩) h
-- arrays
variable {n j : Int} {na ta : Nat}
theorem w_in_ok {j : Int} {n : Nat} (h0 : 0 ≤ j) (h1 : j < n) (hr : w_r 0 j) : ex_in (Int32.ofInt j) n = true ∧ (Int32.ofInt j).toNatClampNeg = j.toNat := by
  have e : (Int32.ofInt j).toInt = j := w_i_to hr
  refine ⟨?_, ?_⟩
  · unfold ex_in
    have := ex_u_int (Int32.ofInt j)
    rw [e] at this
    rw [Bool.and_eq_true]
    refine ⟨Nat.ble_eq.mpr (by omega), Nat.blt_eq.mpr ?_⟩
    show _ < n + 2147483648
    omega
  · show (Int32.ofInt j).toInt.toNat = _
    rw [e]
theorem w_ar_r (hn : w_nm G m) (h0 : 0 ≤ a) (hs : w_sh G a.toNat = some (.inr (ta, na))) (j : Int) : w_ar ta (m a j) := by
  have := hn.1 a.toNat _ hs j
  rw [Int.toNat_of_nonneg h0] at this
  exact this
theorem w_xld_step {u tt : Nat} {e : ex_V} (hn : w_nm G m) (h0 : 0 ≤ a) (hr : w_r 0 j) (hs : w_sh G a.toNat = some (.inr (ta, na))) (hta : ta < 3) (hb : (Nat.beq ta tt || Nat.beq ta u) = true) (hj : 0 ≤ j ∧ j < na) :
    ex_xld (w_g G) tt u nx e (w_cv (0, j) :: w_cv (2, a) :: st.map w_cv) (w_hp G m) = some (.inl (nx, e, .int (Int32.ofInt (m a j)) :: st.map w_cv, w_hp G m)) := by
  obtain ⟨q1, q2⟩ := w_in_ok hj.1 hj.2 hr
  have hct : w_ct m (a.toNat : Nat) ta = .inl (fun j : Nat => Int32.ofInt (m a j)) := by
    rw [Int.toNat_of_nonneg h0]
    unfold w_ct
    split
    · omega
    · omega
    · rfl
  show (match ex_get (w_g G) (w_hp G m) a.toNat with | some (.inr (q, n, .inl f)) => bif (Nat.beq q tt || Nat.beq q u) && ex_in (Int32.ofInt j) n then ex_go nx e (.int (f (Int32.ofInt j).toNatClampNeg) :: st.map w_cv) (w_hp G m) else none | _ => none) = _
  rw [w_get hn hs]
  show (match some (Sum.inr (ta, na, w_ct m (a.toNat : Nat) ta) : ex_C) with | some (.inr (q, n, .inl f)) => bif (Nat.beq q tt || Nat.beq q u) && ex_in (Int32.ofInt j) n then ex_go nx e (.int (f (Int32.ofInt j).toNatClampNeg) :: st.map w_cv) (w_hp G m) else none | _ => none) = _
  rw [hct]
  show (bif (Nat.beq ta tt || Nat.beq ta u) && ex_in (Int32.ofInt j) na then ex_go nx e (.int (Int32.ofInt (m a ((Int32.ofInt j).toNatClampNeg : Nat))) :: st.map w_cv) (w_hp G m) else none) = _
  rw [hb, q1, q2, Int.toNat_of_nonneg hj.1]
  rfl
theorem w_iald {x y : Nat} (hc : ex_cd M.2.2.2.2 pc = some (.iaload, x, y, z, nx)) (hs : w_sh G a.toNat = some (.inr (0, na))) (hna : n = (na : Int)) (hj : 0 ≤ j ∧ j < n) (h : w_W G d M t nx lv ((0, m a j) :: st) m Q) : w_W G d M t pc lv ((0, j) :: (2, a) :: st) m Q := by
  subst hna
  exact w_goS (nx := nx) (st' := ((0, m a j) :: st)) hc (fun n _ s => w_nsc (show w_r 0 _ from w_ar_r n (w_rn0 (w_nst s)) hs j) (w_nst (w_nst s))) (fun n _ s e _ => w_xld_step n (w_rn0 (w_nst s)) (w_ns1 s) hs (by decide) rfl hj) h
theorem w_bald {x y : Nat} (hc : ex_cd M.2.2.2.2 pc = some (.baload, x, y, z, nx)) (hs : w_sh G a.toNat = some (.inr (1, na))) (hna : n = (na : Int)) (hj : 0 ≤ j ∧ j < n) (h : w_W G d M t nx lv ((0, m a j) :: st) m Q) : w_W G d M t pc lv ((0, j) :: (2, a) :: st) m Q := by
  subst hna
  exact w_goS (nx := nx) (st' := ((0, m a j) :: st)) hc (fun n _ s => w_nsc (show w_r 0 _ from by have : -128 ≤ m a j ∧ m a j < 128 := w_ar_r n (w_rn0 (w_nst s)) hs j; exact ⟨by omega, by omega⟩) (w_nst (w_nst s))) (fun n _ s e _ => w_xld_step n (w_rn0 (w_nst s)) (w_ns1 s) hs (by decide) rfl hj) h
theorem w_zald {x y : Nat} (hc : ex_cd M.2.2.2.2 pc = some (.baload, x, y, z, nx)) (hs : w_sh G a.toNat = some (.inr (2, na))) (hna : n = (na : Int)) (hj : 0 ≤ j ∧ j < n) (h : w_W G d M t nx lv ((0, m a j) :: st) m Q) : w_W G d M t pc lv ((0, j) :: (2, a) :: st) m Q := by
  subst hna
  exact w_goS (nx := nx) (st' := ((0, m a j) :: st)) hc (fun n _ s => w_nsc (show w_r 0 _ from by have : 0 ≤ m a j ∧ m a j < 2 := w_ar_r n (w_rn0 (w_nst s)) hs j; exact ⟨by omega, by omega⟩) (w_nst (w_nst s))) (fun n _ s e _ => w_xld_step n (w_rn0 (w_nst s)) (w_ns1 s) hs (by decide) rfl hj) h
theorem w_lald {x y : Nat} (hc : ex_cd M.2.2.2.2 pc = some (.laload, x, y, z, nx)) (hs : w_sh G a.toNat = some (.inr (3, na))) (hE : w_wr G a.toNat) (hna : n = (na : Int)) (hj : 0 ≤ j ∧ j < n) (h : w_W G d M t nx lv ((1, m a j) :: st) m Q) : w_W G d M t pc lv ((0, j) :: (2, a) :: st) m Q := by
  subst hna
  exact w_goS (nx := nx) (st' := ((1, m a j) :: st)) hc (fun n _ s => w_nsc (show w_r 1 _ from w_ar_r n (w_rn0 (w_nst s)) hs j) (w_nst (w_nst s))) (fun n _ s e _ => by
    obtain ⟨q1, q2⟩ := w_in_ok hj.1 hj.2 (w_ns1 s)
    show (match ex_own (w_g G) (w_hp G m) a.toNat with | some (.inr (q, n, .inr (.inl f))) => bif Nat.beq q 3 && ex_in (Int32.ofInt j) n then ex_go nx e (.long (f (Int32.ofInt j).toNatClampNeg) :: st.map w_cv) (w_hp G m) else none | _ => none) = _
    rw [w_own hs hE.1]
    show (bif Nat.beq 3 3 && ex_in (Int32.ofInt j) na then ex_go nx e (.long (Int64.ofInt (m (a.toNat : Nat) ((Int32.ofInt j).toNatClampNeg : Nat))) :: st.map w_cv) (w_hp G m) else none) = _
    rw [q1, q2, Int.toNat_of_nonneg hj.1, Int.toNat_of_nonneg (w_rn0 (w_nst s))]
    rfl) h
theorem w_aald {x y : Nat} (hc : ex_cd M.2.2.2.2 pc = some (.aaload, x, y, z, nx)) (hs : w_sh G a.toNat = some (.inr (4, na))) (hE : w_wr G a.toNat) (hna : n = (na : Int)) (hj : 0 ≤ j ∧ j < n) (hg : 0 ≤ m a j) (h : w_W G d M t nx lv ((2, m a j) :: st) m Q) : w_W G d M t pc lv ((0, j) :: (2, a) :: st) m Q := by
  subst hna
  exact w_goS (nx := nx) (st' := ((2, m a j) :: st)) hc (fun n _ s => w_nsc (show w_r 2 _ from hg) (w_nst (w_nst s))) (fun n _ s e _ => by
    obtain ⟨q1, q2⟩ := w_in_ok hj.1 hj.2 (w_ns1 s)
    show (match ex_own (w_g G) (w_hp G m) a.toNat with | some (.inr (q, n, .inr (.inr (.inr (.inr f))))) => bif Nat.beq q 4 && ex_in (Int32.ofInt j) n then (match f (Int32.ofInt j).toNatClampNeg with | some v => ex_go nx e (.ref v :: st.map w_cv) (w_hp G m) | none => none) else none | _ => none) = _
    rw [w_own hs hE.1]
    show (bif Nat.beq 4 4 && ex_in (Int32.ofInt j) na then (match (if m (a.toNat : Nat) ((Int32.ofInt j).toNatClampNeg : Nat) < 0 then none else some (m (a.toNat : Nat) ((Int32.ofInt j).toNatClampNeg : Nat)).toNat) with | some v => ex_go nx e (.ref v :: st.map w_cv) (w_hp G m) | none => none) else none) = _
    rw [q1, q2, Int.toNat_of_nonneg hj.1, Int.toNat_of_nonneg (w_rn0 (w_nst s)), if_neg (by omega)]
    rfl) h
theorem w_len {x y : Nat} (hc : ex_cd M.2.2.2.2 pc = some (.arraylength, x, y, z, nx)) (hs : w_sh G a.toNat = some (.inr (ta, na))) (hta : ta < 5) (hna : n = (na : Int)) (hb : n < 2147483648) (h : w_W G d M t nx lv ((0, n) :: st) m Q) : w_W G d M t pc lv ((2, a) :: st) m Q := by
  subst hna
  exact w_goS (nx := nx) (st' := ((0, (na : Int)) :: st)) hc (fun n _ s => w_nsc (show w_r 0 _ from ⟨by omega, hb⟩) (w_nst s)) (fun n _ s e _ => by
    show (match ex_get (w_g G) (w_hp G m) a.toNat with | some (.inr (t, n, _)) => bif Nat.blt t 5 then ex_go nx e (.int (Int32.ofNat n) :: st.map w_cv) (w_hp G m) else none | _ => none) = _
    rw [w_get n hs]
    show (bif Nat.blt ta 5 then ex_go nx e (.int (Int32.ofNat na) :: st.map w_cv) (w_hp G m) else none) = some (.inl (nx, e, .int (Int32.ofInt (na : Int)) :: st.map w_cv, w_hp G m))
    rw [show Nat.blt ta 5 = true from Nat.blt_eq.mpr hta, Int32.ofInt_eq_ofNat]
    rfl) h
/-- an array's place is written -/
theorem w_st_nm (hn : w_nm G m) (h0 : 0 ≤ a) (hs : w_sh G a.toNat = some (.inr (ta, na))) (hE : w_wr G a.toNat) (hj : 0 ≤ j ∧ j < na) (hr : w_ar ta v) : w_nm G (w_up m a j v) := by
  refine w_nm_set hn hs hE.1 (fun b q hb => w_up_ne (by omega)) (fun b q hb => w_up_ne (by omega)) (fun q hq => w_up_nb (fun e => hq (by subst e; exact hj))) ?_
  show ∀ q : Int, w_ar ta (w_up m a j v (a.toNat : Nat) q)
  intro q
  rw [Int.toNat_of_nonneg h0]
  by_cases hq : q = j
  · subst hq
    rw [w_up_eq]
    exact hr
  · rw [w_up_nb hq]
    exact w_ar_r hn h0 hs q
theorem w_st_set (h0 : 0 ≤ a) (hs : w_sh G a.toNat = some (.inr (ta, na))) (hE : w_wr G a.toNat) (hta : ta < 3) (hj : 0 ≤ j) : ex_set (w_g G) (w_hp G m) a.toNat (.inr (ta, na, .inl (upd (fun q : Nat => Int32.ofInt (m a q)) j.toNat (Int32.ofInt v)))) = w_hp G (w_up m a j v) := by
  have h1 : (Sum.inr (ta, na, .inl (upd (fun q : Nat => Int32.ofInt (m a q)) j.toNat (Int32.ofInt v))) : ex_C) = w_cell (w_up m a j v) (a.toNat : Nat) (.inr (ta, na)) := by
    show _ = Sum.inr (ta, na, w_ct (w_up m a j v) (a.toNat : Nat) ta)
    congr 3
    rw [Int.toNat_of_nonneg h0]
    unfold w_ct
    split
    · omega
    · omega
    · congr 1
      funext q
      unfold upd
      split
      · rename_i e; subst e; rw [Int.toNat_of_nonneg hj, w_up_eq]
      · rw [w_up_nb (by omega)]
  rw [h1]
  exact w_set hs hE.1 (fun b q hb => w_up_ne (by omega))
theorem w_ct3 (h0 : 0 ≤ a) (hta : ta < 3) : w_ct m (a.toNat : Nat) ta = .inl (fun q : Nat => Int32.ofInt (m a q)) := by
  rw [Int.toNat_of_nonneg h0]
  unfold w_ct
  split
  · omega
  · omega
  · rfl
theorem w_iast {x y : Nat} (hc : ex_cd M.2.2.2.2 pc = some (.iastore, x, y, z, nx)) (hs : w_sh G a.toNat = some (.inr (0, na))) (hE : w_wr G a.toNat) (hna : n = (na : Int)) (hj : 0 ≤ j ∧ j < n) (h : w_W G d M t nx lv st (w_up m a j v) Q) : w_W G d M t pc lv ((0, v) :: (0, j) :: (2, a) :: st) m Q := by
  subst hna
  exact w_go hc (fun n l s => ⟨w_st_nm n (w_rn0 (w_nst (w_nst s))) hs hE hj (w_ns1 s), l, w_nst (w_nst (w_nst s))⟩) (fun s => w_ke.on (w_rn0 (w_nst (w_nst s))) hE (fun b q hb => w_up_ne hb)) (fun n l s e le => ⟨e, le, by
    obtain ⟨q1, q2⟩ := w_in_ok hj.1 hj.2 (w_ns1 (w_nst s))
    have h0 := w_rn0 (w_nst (w_nst s))
    show (match ex_own (w_g G) (w_hp G m) a.toNat with | some (.inr (q, n, .inl f)) => bif Nat.beq q 0 && ex_in (Int32.ofInt j) n then ex_go nx e (st.map w_cv) (ex_set (w_g G) (w_hp G m) a.toNat (.inr (q, n, .inl (upd f (Int32.ofInt j).toNatClampNeg (Int32.ofInt v))))) else none | _ => none) = _
    rw [w_own hs hE.1]
    show (match some (Sum.inr (0, na, w_ct m (a.toNat : Nat) 0) : ex_C) with | some (.inr (q, n, .inl f)) => bif Nat.beq q 0 && ex_in (Int32.ofInt j) n then ex_go nx e (st.map w_cv) (ex_set (w_g G) (w_hp G m) a.toNat (.inr (q, n, .inl (upd f (Int32.ofInt j).toNatClampNeg (Int32.ofInt v))))) else none | _ => none) = _
    rw [w_ct3 h0 (by decide)]
    show (bif Nat.beq 0 0 && ex_in (Int32.ofInt j) na then ex_go nx e (st.map w_cv) (ex_set (w_g G) (w_hp G m) a.toNat (.inr (0, na, .inl (upd (fun q : Nat => Int32.ofInt (m a q)) (Int32.ofInt j).toNatClampNeg (Int32.ofInt v))))) else none) = _
    rw [q1, q2, w_st_set h0 hs hE (by decide) hj.1]
    rfl⟩) h
theorem w_bast {x y : Nat} (hc : ex_cd M.2.2.2.2 pc = some (.bastore, x, y, z, nx)) (hs : w_sh G a.toNat = some (.inr (1, na))) (hE : w_wr G a.toNat) (hna : n = (na : Int)) (hj : 0 ≤ j ∧ j < n) (h : w_W G d M t nx lv st (w_up m a j (w_8 v)) Q) : w_W G d M t pc lv ((0, v) :: (0, j) :: (2, a) :: st) m Q := by
  subst hna
  exact w_go hc (fun n l s => ⟨w_st_nm n (w_rn0 (w_nst (w_nst s))) hs hE hj (w_8_r v), l, w_nst (w_nst (w_nst s))⟩) (fun s => w_ke.on (w_rn0 (w_nst (w_nst s))) hE (fun b q hb => w_up_ne hb)) (fun n l s e le => ⟨e, le, by
    obtain ⟨q1, q2⟩ := w_in_ok hj.1 hj.2 (w_ns1 (w_nst s))
    have h0 := w_rn0 (w_nst (w_nst s))
    show (match ex_own (w_g G) (w_hp G m) a.toNat with | some (.inr (q, n, .inl f)) => bif Nat.beq q 1 && ex_in (Int32.ofInt j) n then ex_go nx e (st.map w_cv) (ex_set (w_g G) (w_hp G m) a.toNat (.inr (q, n, .inl (upd f (Int32.ofInt j).toNatClampNeg (Int32.ofInt v).toInt8.toInt32)))) else bif Nat.beq q 2 && ex_in (Int32.ofInt j) n then ex_go nx e (st.map w_cv) (ex_set (w_g G) (w_hp G m) a.toNat (.inr (q, n, .inl (upd f (Int32.ofInt j).toNatClampNeg (Int32.ofInt v &&& 1))))) else none | _ => none) = _
    rw [w_own hs hE.1]
    show (match some (Sum.inr (1, na, w_ct m (a.toNat : Nat) 1) : ex_C) with | some (.inr (q, n, .inl f)) => bif Nat.beq q 1 && ex_in (Int32.ofInt j) n then ex_go nx e (st.map w_cv) (ex_set (w_g G) (w_hp G m) a.toNat (.inr (q, n, .inl (upd f (Int32.ofInt j).toNatClampNeg (Int32.ofInt v).toInt8.toInt32)))) else bif Nat.beq q 2 && ex_in (Int32.ofInt j) n then ex_go nx e (st.map w_cv) (ex_set (w_g G) (w_hp G m) a.toNat (.inr (q, n, .inl (upd f (Int32.ofInt j).toNatClampNeg (Int32.ofInt v &&& 1))))) else none | _ => none) = _
    rw [w_ct3 h0 (by decide)]
    show (bif Nat.beq 1 1 && ex_in (Int32.ofInt j) na then ex_go nx e (st.map w_cv) (ex_set (w_g G) (w_hp G m) a.toNat (.inr (1, na, .inl (upd (fun q : Nat => Int32.ofInt (m a q)) (Int32.ofInt j).toNatClampNeg (Int32.ofInt v).toInt8.toInt32)))) else _) = _
    rw [q1, q2, Int32.toInt8_ofInt, show (Int8.ofInt v).toInt32 = Int32.ofInt (w_8 v) from Int32.toInt_inj.mp (by rw [Int8.toInt_toInt32, Int8.toInt_ofInt, w_i_to (by have := w_8_r v; exact ⟨by omega, by omega⟩)]; rfl), w_st_set h0 hs hE (by decide) hj.1]
    rfl⟩) h
theorem w_zast {x y : Nat} (hc : ex_cd M.2.2.2.2 pc = some (.bastore, x, y, z, nx)) (hs : w_sh G a.toNat = some (.inr (2, na))) (hE : w_wr G a.toNat) (hna : n = (na : Int)) (hj : 0 ≤ j ∧ j < n) (hg : v = 0 ∨ v = 1) (h : w_W G d M t nx lv st (w_up m a j v) Q) : w_W G d M t pc lv ((0, v) :: (0, j) :: (2, a) :: st) m Q := by
  subst hna
  exact w_go hc (fun n l s => ⟨w_st_nm n (w_rn0 (w_nst (w_nst s))) hs hE hj (show 0 ≤ v ∧ v < 2 by omega), l, w_nst (w_nst (w_nst s))⟩) (fun s => w_ke.on (w_rn0 (w_nst (w_nst s))) hE (fun b q hb => w_up_ne hb)) (fun n l s e le => ⟨e, le, by
    obtain ⟨q1, q2⟩ := w_in_ok hj.1 hj.2 (w_ns1 (w_nst s))
    have h0 := w_rn0 (w_nst (w_nst s))
    show (match ex_own (w_g G) (w_hp G m) a.toNat with | some (.inr (q, n, .inl f)) => bif Nat.beq q 1 && ex_in (Int32.ofInt j) n then ex_go nx e (st.map w_cv) (ex_set (w_g G) (w_hp G m) a.toNat (.inr (q, n, .inl (upd f (Int32.ofInt j).toNatClampNeg (Int32.ofInt v).toInt8.toInt32)))) else bif Nat.beq q 2 && ex_in (Int32.ofInt j) n then ex_go nx e (st.map w_cv) (ex_set (w_g G) (w_hp G m) a.toNat (.inr (q, n, .inl (upd f (Int32.ofInt j).toNatClampNeg (Int32.ofInt v &&& 1))))) else none | _ => none) = _
    rw [w_own hs hE.1]
    show (match some (Sum.inr (2, na, w_ct m (a.toNat : Nat) 2) : ex_C) with | some (.inr (q, n, .inl f)) => bif Nat.beq q 1 && ex_in (Int32.ofInt j) n then ex_go nx e (st.map w_cv) (ex_set (w_g G) (w_hp G m) a.toNat (.inr (q, n, .inl (upd f (Int32.ofInt j).toNatClampNeg (Int32.ofInt v).toInt8.toInt32)))) else bif Nat.beq q 2 && ex_in (Int32.ofInt j) n then ex_go nx e (st.map w_cv) (ex_set (w_g G) (w_hp G m) a.toNat (.inr (q, n, .inl (upd f (Int32.ofInt j).toNatClampNeg (Int32.ofInt v &&& 1))))) else none | _ => none) = _
    rw [w_ct3 h0 (by decide)]
    show (bif Nat.beq 2 1 && ex_in (Int32.ofInt j) na then _ else bif Nat.beq 2 2 && ex_in (Int32.ofInt j) na then ex_go nx e (st.map w_cv) (ex_set (w_g G) (w_hp G m) a.toNat (.inr (2, na, .inl (upd (fun q : Nat => Int32.ofInt (m a q)) (Int32.ofInt j).toNatClampNeg (Int32.ofInt v &&& 1))))) else _) = _
    rw [q1, q2, show Int32.ofInt v &&& 1 = Int32.ofInt v by (rcases hg with rfl | rfl <;> decide), w_st_set h0 hs hE (by decide) hj.1]
    rfl⟩) h
theorem w_last {x y : Nat} (hc : ex_cd M.2.2.2.2 pc = some (.lastore, x, y, z, nx)) (hs : w_sh G a.toNat = some (.inr (3, na))) (hE : w_wr G a.toNat) (hna : n = (na : Int)) (hj : 0 ≤ j ∧ j < n) (h : w_W G d M t nx lv st (w_up m a j v) Q) : w_W G d M t pc lv ((1, v) :: (0, j) :: (2, a) :: st) m Q := by
  subst hna
  exact w_go hc (fun n l s => ⟨w_st_nm n (w_rn0 (w_nst (w_nst s))) hs hE hj (w_ns1 s), l, w_nst (w_nst (w_nst s))⟩) (fun s => w_ke.on (w_rn0 (w_nst (w_nst s))) hE (fun b q hb => w_up_ne hb)) (fun n l s e le => ⟨e, le, by
    obtain ⟨q1, q2⟩ := w_in_ok hj.1 hj.2 (w_ns1 (w_nst s))
    have h0 := w_rn0 (w_nst (w_nst s))
    show (match ex_own (w_g G) (w_hp G m) a.toNat with | some (.inr (q, n, .inr (.inl f))) => bif Nat.beq q 3 && ex_in (Int32.ofInt j) n then ex_go nx e (st.map w_cv) (ex_set (w_g G) (w_hp G m) a.toNat (.inr (q, n, .inr (.inl (vp_updL f (Int32.ofInt j).toNatClampNeg (Int64.ofInt v)))))) else none | _ => none) = _
    rw [w_own hs hE.1]
    show (bif Nat.beq 3 3 && ex_in (Int32.ofInt j) na then ex_go nx e (st.map w_cv) (ex_set (w_g G) (w_hp G m) a.toNat (.inr (3, na, .inr (.inl (vp_updL (fun q : Nat => Int64.ofInt (m (a.toNat : Nat) q)) (Int32.ofInt j).toNatClampNeg (Int64.ofInt v)))))) else none) = _
    rw [q1, q2]
    have hf : vp_updL (fun q : Nat => Int64.ofInt (m (a.toNat : Nat) q)) j.toNat (Int64.ofInt v) = (fun q : Nat => Int64.ofInt (w_up m a j v (a.toNat : Nat) q)) := by
      funext q
      rw [Int.toNat_of_nonneg h0]
      unfold vp_updL
      split
      · rename_i e; subst e; rw [Int.toNat_of_nonneg hj.1, w_up_eq]
      · rw [w_up_nb (by omega)]
    have h1 : (Sum.inr (3, na, .inr (.inl (vp_updL (fun q : Nat => Int64.ofInt (m (a.toNat : Nat) q)) j.toNat (Int64.ofInt v)))) : ex_C) = w_cell (w_up m a j v) (a.toNat : Nat) (.inr (3, na)) := by
      rw [hf]
      rfl
    rw [h1, w_set (m' := w_up m a j v) hs hE.1 (fun b q hb => w_up_ne (by omega))]
    rfl⟩) h
end WH
