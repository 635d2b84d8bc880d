/-! ===== the first call on fresh objects: class and reference answer alike ===== -/
noncomputable def ex_h0 : ex_H := (ex_hB, 1123657)
def ex_Both (N k j : Nat) (as bs : List Value) : Prop := ∃ (v : Int32) (h h' : ex_H) (fs : List Value), ex_runF ex_g0 ex_Q0 N 20 k as ex_h0 = some (some (.int v), h) ∧ ex_runF ex_g0 ex_Q0 N 20 j bs h = some (some (.int v), h') ∧ h'.1.length ≤ 1000 ∧ h'.2 ≤ 2000000 ∧ ex_nth h.1 71 = some (.inl (12, fs))
theorem ex_Both_i {N k j : Nat} {as bs : List Value} (v : Int32) {h h' : ex_H} (h1 : ex_runF ex_g0 ex_Q0 N 20 k as ex_h0 = some (some (.int v), h)) (h2 : ex_runF ex_g0 ex_Q0 N 20 j bs h = some (some (.int v), h')) {fs : List Value} (h3 : h'.1.length ≤ 1000) (h4 : h'.2 ≤ 2000000) (h5 : ex_nth h.1 71 = some (.inl (12, fs))) : ex_Both N k j as bs := ⟨v, h, h', fs, h1, h2, h3, h4, h5⟩
noncomputable def ex_isM (h : ex_H) : Bool := match ex_nth h.1 71 with
  | some (.inl (ci, _)) => Nat.beq ci 12
  | _ => false
theorem ex_isM_s {h : ex_H} (q : ex_isM h = true) : ∃ fs : List Value, ex_nth h.1 71 = some (.inl (12, fs)) := by
  unfold ex_isM at q
  split at q
  · rename_i ci fs e
    rw [Nat.eq_of_beq_eq_true q] at e
    exact ⟨fs, e⟩
  · cases q
/-- both end with the same int -/
noncomputable def ex_both (N k j : Nat) (as bs : List Value) : Bool := match ex_runF ex_g0 ex_Q0 N 20 k as ex_h0 with
  | some (some (.int v), h) => (match ex_runF ex_g0 ex_Q0 N 20 j bs h with
    | some (some (.int u), h') => Nat.beq (ex_v v) (ex_v u) && Nat.ble h'.1.length 1000 && Nat.ble h'.2 2000000 && ex_isM h
    | _ => false)
  | _ => false
theorem ex_both_s {N k j : Nat} {as bs : List Value} (h : ex_both N k j as bs = true) : ex_Both N k j as bs := by
  unfold ex_both at h
  split at h
  · rename_i v h1 e1
    split at h
    · rename_i u h2 e2
      simp only [Bool.and_eq_true] at h
      obtain ⟨fs, hM⟩ := ex_isM_s h.2
      refine ⟨v, h1, h2, fs, e1, ?_, Nat.le_of_ble_eq_true h.1.1.2, Nat.le_of_ble_eq_true h.1.2, hM⟩
      rw [e2, ex_v_inj.mp (Nat.eq_of_beq_eq_true h.1.1.1)]
    · cases h
  · cases h
theorem ex_set_len (g : ex_G) (h : ex_H) (i : Nat) (c : ex_C) : (ex_set g h i c).1.length = h.1.length := by
  show (ex_lset h.1 _ c).length = _
  rw [ex_lset_eq, List.length_set]
theorem ex_set_nth {g : ex_G} {h : ex_H} {i j : Nat} {c : ex_C} (hn : Nat.sub i g.1 ≠ j) : ex_nth (ex_set g h i c).1 j = ex_nth h.1 j := by
  show ex_nth (ex_lset h.1 _ c) j = _
  rw [ex_nth_eq, ex_nth_eq, ex_lset_eq, List.getElem?_set_ne hn]
theorem ex_set_two (g : ex_G) (h : ex_H) (i : Nat) (c : ex_C) : (ex_set g h i c).2 = h.2 := rfl
section EXT
variable {g : ex_G} {call : Nat → List Value → ex_H → Option (Option Value × ex_H)} {kd : List (List (Option ex_K))} {n pc nx t : Nat} {lv : ex_V} {st r : List Value} {h : ex_H} {R : Option (Option Value × ex_H)}
noncomputable def ex_one1 (g : ex_G) (kd : List (List (Option ex_K))) (pc : Nat) (lv : ex_V) (st : List Value) (h : ex_H) : Option ex_O := match ex_fl kd pc with
  | none => none
  | some k => k g lv st h
theorem ex_loopF_one : ex_loopF g call kd (n + 1) (pc, lv, st, h) = (match ex_one1 g kd pc lv st h with
      | none => none
      | some (.inl k) => ex_loopF g call kd n k
      | some (.inr (.inl r)) => some r
      | some (.inr (.inr (k, as, b))) => match call k as b.2.2.2 with
        | none => none
        | some (none, h) => ex_loopF g call kd n (b.1, b.2.1, b.2.2.1, h)
        | some (some v, h) => ex_loopF g call kd n (b.1, b.2.1, v :: b.2.2.1, h)) := by
  show (match ex_fl kd pc with | none => none | some k => _) = _
  unfold ex_one1
  cases ex_fl kd pc with
  | none => rfl
  | some k => rfl
theorem ex_sF {f : ex_F} (h1 : ex_one1 g kd pc lv st h = some (.inl f)) (h2 : ex_loopF g call kd n f = R) : ex_loopF g call kd (n + 1) (pc, lv, st, h) = R := by
  rw [ex_loopF_one, h1]
  exact h2
theorem ex_rF {v : Option Value × ex_H} (h1 : ex_one1 g kd pc lv st h = some (.inr (.inl v))) : ex_loopF g call kd (n + 1) (pc, lv, st, h) = some v := by
  rw [ex_loopF_one, h1]
theorem ex_cFv {k pc' : Nat} {as st' : List Value} {lv' : ex_V} {h' h'' : ex_H} {v : Value} (h1 : ex_one1 g kd pc lv st h = some (.inr (.inr (k, as, (pc', lv', st', h'))))) (h2 : call k as h' = some (some v, h'')) (h3 : ex_loopF g call kd n (pc', lv', v :: st', h'') = R) : ex_loopF g call kd (n + 1) (pc, lv, st, h) = R := by
  rw [ex_loopF_one, h1]
  show (match call k as h' with | none => none | some (none, h) => _ | some (some v, h) => _) = R
  rw [h2]
  exact h3
theorem ex_cFn {k pc' : Nat} {as st' : List Value} {lv' : ex_V} {h' h'' : ex_H} (h1 : ex_one1 g kd pc lv st h = some (.inr (.inr (k, as, (pc', lv', st', h'))))) (h2 : call k as h' = some (none, h'')) (h3 : ex_loopF g call kd n (pc', lv', st', h'') = R) : ex_loopF g call kd (n + 1) (pc, lv, st, h) = R := by
  rw [ex_loopF_one, h1]
  show (match call k as h' with | none => none | some (none, h) => _ | some (some v, h) => _) = R
  rw [h2]
  exact h3
theorem ex_uF {Q : Nat → Option (Nat × List (List (Option ex_K)))} {N d k : Nat} {as : List Value} {M : Nat × List (List (Option ex_K))} (h1 : Q k = some M) (h2 : Nat.ble (ex_w as) M.1 = true) (h3 : ex_loopF g (ex_runF g Q N d) M.2 N (0, lv_args 0 as, [], h) = R) : ex_runF g Q N (d + 1) k as h = R := by
  unfold ex_runF
  rw [h1]
  simp only
  rw [h2]
  exact h3
theorem ex_if_T {c : Int32 → Bool} {x : Int32} (hc : c x = true) : ex_if c t nx lv (.int x :: r) h = some (.inl (t, lv, r, h)) := by
  show (bif c x then _ else _) = _
  rw [hc]
  rfl
theorem ex_if_F {c : Int32 → Bool} {x : Int32} (hc : c x = false) : ex_if c t nx lv (.int x :: r) h = some (.inl (nx, lv, r, h)) := by
  show (bif c x then _ else _) = _
  rw [hc]
  rfl
theorem ex_ic_T {c : Int32 → Int32 → Bool} {x y : Int32} (hc : c x y = true) : ex_ic c t nx lv (.int y :: .int x :: r) h = some (.inl (t, lv, r, h)) := by
  show (bif c x y then _ else _) = _
  rw [hc]
  rfl
theorem ex_ic_F {c : Int32 → Int32 → Bool} {x y : Int32} (hc : c x y = false) : ex_ic c t nx lv (.int y :: .int x :: r) h = some (.inl (nx, lv, r, h)) := by
  show (bif c x y then _ else _) = _
  rw [hc]
  rfl
theorem ex_tsw_O {x : Int32} {dd lo hi : Int} {offs : Array Int} (hx : x.toInt < lo ∨ hi < x.toInt) : ex_tsw dd lo hi offs pc lv (.int x :: r) h = ex_to pc dd lv r h := by
  show (bif decide (x.toInt < lo ∨ hi < x.toInt) then _ else _) = _
  rw [decide_eq_true hx]
  rfl
/-- a branch is taken, or not (the condition's word comes from elsewhere) -/
theorem ex_bT {c : Int32 → Bool} {x : Int32} (h0 : ex_fl kd pc = some (fun _ lv st h => ex_if c t nx lv st h)) (hc : c x = true) : ex_one1 g kd pc lv (.int x :: r) h = some (.inl (t, lv, r, h)) := by
  unfold ex_one1
  rw [h0]
  exact ex_if_T hc
theorem ex_bF' {c : Int32 → Bool} {x : Int32} (h0 : ex_fl kd pc = some (fun _ lv st h => ex_if c t nx lv st h)) (hc : c x = false) : ex_one1 g kd pc lv (.int x :: r) h = some (.inl (nx, lv, r, h)) := by
  unfold ex_one1
  rw [h0]
  exact ex_if_F hc
theorem ex_bT2 {c : Int32 → Int32 → Bool} {x y : Int32} (h0 : ex_fl kd pc = some (fun _ lv st h => ex_ic c t nx lv st h)) (hc : c x y = true) : ex_one1 g kd pc lv (.int y :: .int x :: r) h = some (.inl (t, lv, r, h)) := by
  unfold ex_one1
  rw [h0]
  exact ex_ic_T hc
theorem ex_bF2 {c : Int32 → Int32 → Bool} {x y : Int32} (h0 : ex_fl kd pc = some (fun _ lv st h => ex_ic c t nx lv st h)) (hc : c x y = false) : ex_one1 g kd pc lv (.int y :: .int x :: r) h = some (.inl (nx, lv, r, h)) := by
  unfold ex_one1
  rw [h0]
  exact ex_ic_F hc
theorem ex_to_t {off : Int} (ht : (pc : Int) + off = (t : Int)) : ex_to pc off lv r h = some (.inl (t, lv, r, h)) := by
  unfold ex_to
  rw [ht, decide_eq_true (Int.natCast_nonneg t)]
  rfl
theorem ex_bO {x : Int32} {dd lo hi : Int} {offs : Array Int} (h0 : ex_fl kd pc = some (fun _ lv st h => ex_tsw dd lo hi offs pc lv st h)) (hx : x.toInt < lo ∨ hi < x.toInt) (ht : (pc : Int) + dd = (t : Int)) : ex_one1 g kd pc lv (.int x :: r) h = some (.inl (t, lv, r, h)) := by
  unfold ex_one1
  rw [h0]
  exact (ex_tsw_O hx).trans (ex_to_t ht)
theorem ex_bI {x : Int32} {dd lo hi off : Int} {offs : Array Int} (h0 : ex_fl kd pc = some (fun _ lv st h => ex_tsw dd lo hi offs pc lv st h)) (hx : ¬ (x.toInt < lo ∨ hi < x.toInt)) (ho : offs[(x.toInt - lo).toNat]? = some off) (ht : (pc : Int) + off = (t : Int)) : ex_one1 g kd pc lv (.int x :: r) h = some (.inl (t, lv, r, h)) := by
  unfold ex_one1
  rw [h0]
  show (bif decide (x.toInt < lo ∨ hi < x.toInt) then _ else (match offs[(x.toInt - lo).toNat]? with | some off => ex_to pc off lv r h | none => none)) = _
  rw [decide_eq_false hx, ho]
  exact ex_to_t ht
theorem ex_bB {x j : Int32} {i m : Nat} {f : Nat → Int32} (h0 : ex_fl kd pc = some (fun g lv st h => ex_xbst g nx lv st h)) (hg : ex_own g h i = some (.inr (1, m, .inl f))) (hin : ex_in j m = true) : ex_one1 g kd pc lv (.int x :: .int j :: .ref i :: r) h = some (.inl (nx, lv, r, ex_set g h i (.inr (1, m, .inl (upd f j.toNatClampNeg x.toInt8.toInt32))))) := by
  unfold ex_one1
  rw [h0]
  show ex_xbst g nx lv _ h = _
  unfold ex_xbst
  simp only [hg]
  rw [hin]
  rfl
end EXT

set_option maxRecDepth 100000 in
theorem ex_e_feed (N : Nat) (a b c d e : Int32) : ex_Both (N + 300) 34 69 [.ref 148, .int a, .int b, .int c, .int d, .int e] [.ref 219, .int a, .int b, .int c, .int d, .int e] := by
  apply ex_Both_i 20
  refine ex_uF rfl rfl ?_
  refine ex_sF rfl ?_
  refine ex_sF rfl ?_
  refine ex_sF rfl ?_
  refine ex_sF rfl ?_
  refine ex_sF rfl ?_
  refine ex_sF (ex_bT2 rfl (by decide +kernel)) ?_
  refine ex_sF rfl ?_
  refine ex_sF rfl ?_
  apply ex_cFn
  exact rfl
  refine ex_uF rfl rfl ?_
  refine ex_sF rfl ?_
  refine ex_sF rfl ?_
  refine ex_sF rfl ?_
  refine ex_sF (ex_bF' rfl (by decide +kernel)) ?_
  refine ex_sF rfl ?_
  refine ex_sF rfl ?_
  refine ex_sF (ex_bF' rfl (by decide +kernel)) ?_
  refine ex_sF rfl ?_
  refine ex_sF rfl ?_
  refine ex_sF rfl ?_
  refine ex_sF rfl ?_
  refine ex_sF rfl ?_
  refine ex_sF (ex_bF2 rfl (by decide +kernel)) ?_
  refine ex_sF rfl ?_
  refine ex_sF rfl ?_
  refine ex_sF rfl ?_
  refine ex_sF rfl ?_
  refine ex_sF rfl ?_
  refine ex_sF rfl ?_
  refine ex_sF rfl ?_
  refine ex_sF rfl ?_
  refine ex_sF (ex_bB rfl rfl (by decide +kernel)) ?_
  refine ex_sF rfl ?_
  refine ex_sF rfl ?_
  refine ex_sF rfl ?_
  refine ex_sF rfl ?_
  refine ex_sF rfl ?_
  refine ex_sF rfl ?_
  refine ex_sF rfl ?_
  refine ex_sF rfl ?_
  refine ex_sF rfl ?_
  refine ex_sF (ex_bF' rfl (by decide +kernel)) ?_
  refine ex_sF rfl ?_
  refine ex_sF rfl ?_
  refine ex_sF (ex_bF' rfl (by decide +kernel)) ?_
  refine ex_sF rfl ?_
  refine ex_sF rfl ?_
  refine ex_sF rfl ?_
  refine ex_sF rfl ?_
  refine ex_sF rfl ?_
  refine ex_sF (ex_bF2 rfl (by decide +kernel)) ?_
  refine ex_sF rfl ?_
  refine ex_sF rfl ?_
  refine ex_sF rfl ?_
  refine ex_sF rfl ?_
  refine ex_sF rfl ?_
  refine ex_sF rfl ?_
  refine ex_sF rfl ?_
  refine ex_sF rfl ?_
  refine ex_sF (ex_bB rfl rfl (by decide +kernel)) ?_
  refine ex_sF rfl ?_
  refine ex_sF rfl ?_
  refine ex_sF rfl ?_
  refine ex_sF rfl ?_
  refine ex_sF rfl ?_
  refine ex_sF rfl ?_
  refine ex_sF rfl ?_
  refine ex_sF rfl ?_
  refine ex_sF rfl ?_
  refine ex_sF (ex_bF' rfl (by decide +kernel)) ?_
  refine ex_sF rfl ?_
  refine ex_sF rfl ?_
  refine ex_sF (ex_bF' rfl (by decide +kernel)) ?_
  refine ex_sF rfl ?_
  refine ex_sF rfl ?_
  refine ex_sF rfl ?_
  refine ex_sF rfl ?_
  refine ex_sF rfl ?_
  refine ex_sF (ex_bF2 rfl (by decide +kernel)) ?_
  refine ex_sF rfl ?_
  refine ex_sF rfl ?_
  refine ex_sF rfl ?_
  refine ex_sF rfl ?_
  refine ex_sF rfl ?_
  refine ex_sF rfl ?_
  refine ex_sF rfl ?_
  refine ex_sF rfl ?_
  refine ex_sF (ex_bB rfl rfl (by decide +kernel)) ?_
  refine ex_sF rfl ?_
  refine ex_sF rfl ?_
  refine ex_sF rfl ?_
  refine ex_sF rfl ?_
  refine ex_sF rfl ?_
  refine ex_sF rfl ?_
  refine ex_sF rfl ?_
  refine ex_sF rfl ?_
  refine ex_sF rfl ?_
  refine ex_sF (ex_bF' rfl (by decide +kernel)) ?_
  refine ex_sF rfl ?_
  refine ex_sF rfl ?_
  refine ex_sF (ex_bF' rfl (by decide +kernel)) ?_
  refine ex_sF rfl ?_
  refine ex_sF rfl ?_
  refine ex_sF rfl ?_
  refine ex_sF rfl ?_
  refine ex_sF rfl ?_
  refine ex_sF (ex_bF2 rfl (by decide +kernel)) ?_
  refine ex_sF rfl ?_
  refine ex_sF rfl ?_
  refine ex_sF rfl ?_
  refine ex_sF rfl ?_
  refine ex_sF rfl ?_
  refine ex_sF rfl ?_
  refine ex_sF rfl ?_
  refine ex_sF rfl ?_
  refine ex_sF (ex_bB rfl rfl (by decide +kernel)) ?_
  refine ex_sF rfl ?_
  refine ex_sF rfl ?_
  refine ex_sF rfl ?_
  refine ex_sF rfl ?_
  refine ex_sF rfl ?_
  refine ex_sF rfl ?_
  refine ex_sF rfl ?_
  refine ex_sF rfl ?_
  refine ex_sF rfl ?_
  refine ex_sF (ex_bT rfl (by decide +kernel)) ?_
  exact ex_rF rfl
  refine ex_sF rfl ?_
  refine ex_sF rfl ?_
  apply ex_cFn
  exact rfl
  refine ex_uF rfl rfl ?_
  refine ex_sF rfl ?_
  refine ex_sF rfl ?_
  refine ex_sF rfl ?_
  refine ex_sF (ex_bF' rfl (by decide +kernel)) ?_
  refine ex_sF rfl ?_
  refine ex_sF rfl ?_
  refine ex_sF (ex_bF' rfl (by decide +kernel)) ?_
  refine ex_sF rfl ?_
  refine ex_sF rfl ?_
  refine ex_sF rfl ?_
  refine ex_sF rfl ?_
  refine ex_sF rfl ?_
  refine ex_sF (ex_bF2 rfl (by decide +kernel)) ?_
  refine ex_sF rfl ?_
  refine ex_sF rfl ?_
  refine ex_sF rfl ?_
  refine ex_sF rfl ?_
  refine ex_sF rfl ?_
  refine ex_sF rfl ?_
  refine ex_sF rfl ?_
  refine ex_sF rfl ?_
  refine ex_sF (ex_bB rfl rfl (by decide +kernel)) ?_
  refine ex_sF rfl ?_
  refine ex_sF rfl ?_
  refine ex_sF rfl ?_
  refine ex_sF rfl ?_
  refine ex_sF rfl ?_
  refine ex_sF rfl ?_
  refine ex_sF rfl ?_
  refine ex_sF rfl ?_
  refine ex_sF rfl ?_
  refine ex_sF (ex_bF' rfl (by decide +kernel)) ?_
  refine ex_sF rfl ?_
  refine ex_sF rfl ?_
  refine ex_sF (ex_bF' rfl (by decide +kernel)) ?_
  refine ex_sF rfl ?_
  refine ex_sF rfl ?_
  refine ex_sF rfl ?_
  refine ex_sF rfl ?_
  refine ex_sF rfl ?_
  refine ex_sF (ex_bF2 rfl (by decide +kernel)) ?_
  refine ex_sF rfl ?_
  refine ex_sF rfl ?_
  refine ex_sF rfl ?_
  refine ex_sF rfl ?_
  refine ex_sF rfl ?_
  refine ex_sF rfl ?_
  refine ex_sF rfl ?_
  refine ex_sF rfl ?_
  refine ex_sF (ex_bB rfl rfl (by decide +kernel)) ?_
  refine ex_sF rfl ?_
  refine ex_sF rfl ?_
  refine ex_sF rfl ?_
  refine ex_sF rfl ?_
  refine ex_sF rfl ?_
  refine ex_sF rfl ?_
  refine ex_sF rfl ?_
  refine ex_sF rfl ?_
  refine ex_sF rfl ?_
  refine ex_sF (ex_bF' rfl (by decide +kernel)) ?_
  refine ex_sF rfl ?_
  refine ex_sF rfl ?_
  refine ex_sF (ex_bF' rfl (by decide +kernel)) ?_
  refine ex_sF rfl ?_
  refine ex_sF rfl ?_
  refine ex_sF rfl ?_
  refine ex_sF rfl ?_
  refine ex_sF rfl ?_
  refine ex_sF (ex_bF2 rfl (by decide +kernel)) ?_
  refine ex_sF rfl ?_
  refine ex_sF rfl ?_
  refine ex_sF rfl ?_
  refine ex_sF rfl ?_
  refine ex_sF rfl ?_
  refine ex_sF rfl ?_
  refine ex_sF rfl ?_
  refine ex_sF rfl ?_
  refine ex_sF (ex_bB rfl rfl (by decide +kernel)) ?_
  refine ex_sF rfl ?_
  refine ex_sF rfl ?_
  refine ex_sF rfl ?_
  refine ex_sF rfl ?_
  refine ex_sF rfl ?_
  refine ex_sF rfl ?_
  refine ex_sF rfl ?_
  refine ex_sF rfl ?_
  refine ex_sF rfl ?_
  refine ex_sF (ex_bF' rfl (by decide +kernel)) ?_
  refine ex_sF rfl ?_
  refine ex_sF rfl ?_
  refine ex_sF (ex_bF' rfl (by decide +kernel)) ?_
  refine ex_sF rfl ?_
  refine ex_sF rfl ?_
  refine ex_sF rfl ?_
  refine ex_sF rfl ?_
  refine ex_sF rfl ?_
  refine ex_sF (ex_bF2 rfl (by decide +kernel)) ?_
  refine ex_sF rfl ?_
  refine ex_sF rfl ?_
  refine ex_sF rfl ?_
  refine ex_sF rfl ?_
  refine ex_sF rfl ?_
  refine ex_sF rfl ?_
  refine ex_sF rfl ?_
  refine ex_sF rfl ?_
  refine ex_sF (ex_bB rfl rfl (by decide +kernel)) ?_
  refine ex_sF rfl ?_
  refine ex_sF rfl ?_
  refine ex_sF rfl ?_
  refine ex_sF rfl ?_
  refine ex_sF rfl ?_
  refine ex_sF rfl ?_
  refine ex_sF rfl ?_
  refine ex_sF rfl ?_
  refine ex_sF rfl ?_
  refine ex_sF (ex_bT rfl (by decide +kernel)) ?_
  exact ex_rF rfl
  refine ex_sF rfl ?_
  refine ex_sF rfl ?_
  apply ex_cFn
  exact rfl
  refine ex_uF rfl rfl ?_
  refine ex_sF rfl ?_
  refine ex_sF rfl ?_
  refine ex_sF rfl ?_
  refine ex_sF (ex_bF' rfl (by decide +kernel)) ?_
  refine ex_sF rfl ?_
  refine ex_sF rfl ?_
  refine ex_sF (ex_bF' rfl (by decide +kernel)) ?_
  refine ex_sF rfl ?_
  refine ex_sF rfl ?_
  refine ex_sF rfl ?_
  refine ex_sF rfl ?_
  refine ex_sF rfl ?_
  refine ex_sF (ex_bF2 rfl (by decide +kernel)) ?_
  refine ex_sF rfl ?_
  refine ex_sF rfl ?_
  refine ex_sF rfl ?_
  refine ex_sF rfl ?_
  refine ex_sF rfl ?_
  refine ex_sF rfl ?_
  refine ex_sF rfl ?_
  refine ex_sF rfl ?_
  refine ex_sF (ex_bB rfl rfl (by decide +kernel)) ?_
  refine ex_sF rfl ?_
  refine ex_sF rfl ?_
  refine ex_sF rfl ?_
  refine ex_sF rfl ?_
  refine ex_sF rfl ?_
  refine ex_sF rfl ?_
  refine ex_sF rfl ?_
  refine ex_sF rfl ?_
  refine ex_sF rfl ?_
  refine ex_sF (ex_bF' rfl (by decide +kernel)) ?_
  refine ex_sF rfl ?_
  refine ex_sF rfl ?_
  refine ex_sF (ex_bF' rfl (by decide +kernel)) ?_
  refine ex_sF rfl ?_
  refine ex_sF rfl ?_
  refine ex_sF rfl ?_
  refine ex_sF rfl ?_
  refine ex_sF rfl ?_
  refine ex_sF (ex_bF2 rfl (by decide +kernel)) ?_
  refine ex_sF rfl ?_
  refine ex_sF rfl ?_
  refine ex_sF rfl ?_
  refine ex_sF rfl ?_
  refine ex_sF rfl ?_
  refine ex_sF rfl ?_
  refine ex_sF rfl ?_
  refine ex_sF rfl ?_
  refine ex_sF (ex_bB rfl rfl (by decide +kernel)) ?_
  refine ex_sF rfl ?_
  refine ex_sF rfl ?_
  refine ex_sF rfl ?_
  refine ex_sF rfl ?_
  refine ex_sF rfl ?_
  refine ex_sF rfl ?_
  refine ex_sF rfl ?_
  refine ex_sF rfl ?_
  refine ex_sF rfl ?_
  refine ex_sF (ex_bF' rfl (by decide +kernel)) ?_
  refine ex_sF rfl ?_
  refine ex_sF rfl ?_
  refine ex_sF (ex_bF' rfl (by decide +kernel)) ?_
  refine ex_sF rfl ?_
  refine ex_sF rfl ?_
  refine ex_sF rfl ?_
  refine ex_sF rfl ?_
  refine ex_sF rfl ?_
  refine ex_sF (ex_bF2 rfl (by decide +kernel)) ?_
  refine ex_sF rfl ?_
  refine ex_sF rfl ?_
  refine ex_sF rfl ?_
  refine ex_sF rfl ?_
  refine ex_sF rfl ?_
  refine ex_sF rfl ?_
  refine ex_sF rfl ?_
  refine ex_sF rfl ?_
  refine ex_sF (ex_bB rfl rfl (by decide +kernel)) ?_
  refine ex_sF rfl ?_
  refine ex_sF rfl ?_
  refine ex_sF rfl ?_
  refine ex_sF rfl ?_
  refine ex_sF rfl ?_
  refine ex_sF rfl ?_
  refine ex_sF rfl ?_
  refine ex_sF rfl ?_
  refine ex_sF rfl ?_
  refine ex_sF (ex_bF' rfl (by decide +kernel)) ?_
  refine ex_sF rfl ?_
  refine ex_sF rfl ?_
  refine ex_sF (ex_bF' rfl (by decide +kernel)) ?_
  refine ex_sF rfl ?_
  refine ex_sF rfl ?_
  refine ex_sF rfl ?_
  refine ex_sF rfl ?_
  refine ex_sF rfl ?_
  refine ex_sF (ex_bF2 rfl (by decide +kernel)) ?_
  refine ex_sF rfl ?_
  refine ex_sF rfl ?_
  refine ex_sF rfl ?_
  refine ex_sF rfl ?_
  refine ex_sF rfl ?_
  refine ex_sF rfl ?_
  refine ex_sF rfl ?_
  refine ex_sF rfl ?_
  refine ex_sF (ex_bB rfl rfl (by decide +kernel)) ?_
  refine ex_sF rfl ?_
  refine ex_sF rfl ?_
  refine ex_sF rfl ?_
  refine ex_sF rfl ?_
  refine ex_sF rfl ?_
  refine ex_sF rfl ?_
  refine ex_sF rfl ?_
  refine ex_sF rfl ?_
  refine ex_sF rfl ?_
  refine ex_sF (ex_bT rfl (by decide +kernel)) ?_
  exact ex_rF rfl
  refine ex_sF rfl ?_
  refine ex_sF rfl ?_
  apply ex_cFn
  exact rfl
  refine ex_uF rfl rfl ?_
  refine ex_sF rfl ?_
  refine ex_sF rfl ?_
  refine ex_sF rfl ?_
  refine ex_sF (ex_bF' rfl (by decide +kernel)) ?_
  refine ex_sF rfl ?_
  refine ex_sF rfl ?_
  refine ex_sF (ex_bF' rfl (by decide +kernel)) ?_
  refine ex_sF rfl ?_
  refine ex_sF rfl ?_
  refine ex_sF rfl ?_
  refine ex_sF rfl ?_
  refine ex_sF rfl ?_
  refine ex_sF (ex_bF2 rfl (by decide +kernel)) ?_
  refine ex_sF rfl ?_
  refine ex_sF rfl ?_
  refine ex_sF rfl ?_
  refine ex_sF rfl ?_
  refine ex_sF rfl ?_
  refine ex_sF rfl ?_
  refine ex_sF rfl ?_
  refine ex_sF rfl ?_
  refine ex_sF (ex_bB rfl rfl (by decide +kernel)) ?_
  refine ex_sF rfl ?_
  refine ex_sF rfl ?_
  refine ex_sF rfl ?_
  refine ex_sF rfl ?_
  refine ex_sF rfl ?_
  refine ex_sF rfl ?_
  refine ex_sF rfl ?_
  refine ex_sF rfl ?_
  refine ex_sF rfl ?_
  refine ex_sF (ex_bF' rfl (by decide +kernel)) ?_
  refine ex_sF rfl ?_
  refine ex_sF rfl ?_
  refine ex_sF (ex_bF' rfl (by decide +kernel)) ?_
  refine ex_sF rfl ?_
  refine ex_sF rfl ?_
  refine ex_sF rfl ?_
  refine ex_sF rfl ?_
  refine ex_sF rfl ?_
  refine ex_sF (ex_bF2 rfl (by decide +kernel)) ?_
  refine ex_sF rfl ?_
  refine ex_sF rfl ?_
  refine ex_sF rfl ?_
  refine ex_sF rfl ?_
  refine ex_sF rfl ?_
  refine ex_sF rfl ?_
  refine ex_sF rfl ?_
  refine ex_sF rfl ?_
  refine ex_sF (ex_bB rfl rfl (by decide +kernel)) ?_
  refine ex_sF rfl ?_
  refine ex_sF rfl ?_
  refine ex_sF rfl ?_
  refine ex_sF rfl ?_
  refine ex_sF rfl ?_
  refine ex_sF rfl ?_
  refine ex_sF rfl ?_
  refine ex_sF rfl ?_
  refine ex_sF rfl ?_
  refine ex_sF (ex_bF' rfl (by decide +kernel)) ?_
  refine ex_sF rfl ?_
  refine ex_sF rfl ?_
  refine ex_sF (ex_bF' rfl (by decide +kernel)) ?_
  refine ex_sF rfl ?_
  refine ex_sF rfl ?_
  refine ex_sF rfl ?_
  refine ex_sF rfl ?_
  refine ex_sF rfl ?_
  refine ex_sF (ex_bF2 rfl (by decide +kernel)) ?_
  refine ex_sF rfl ?_
  refine ex_sF rfl ?_
  refine ex_sF rfl ?_
  refine ex_sF rfl ?_
  refine ex_sF rfl ?_
  refine ex_sF rfl ?_
  refine ex_sF rfl ?_
  refine ex_sF rfl ?_
  refine ex_sF (ex_bB rfl rfl (by decide +kernel)) ?_
  refine ex_sF rfl ?_
  refine ex_sF rfl ?_
  refine ex_sF rfl ?_
  refine ex_sF rfl ?_
  refine ex_sF rfl ?_
  refine ex_sF rfl ?_
  refine ex_sF rfl ?_
  refine ex_sF rfl ?_
  refine ex_sF rfl ?_
  refine ex_sF (ex_bF' rfl (by decide +kernel)) ?_
  refine ex_sF rfl ?_
  refine ex_sF rfl ?_
  refine ex_sF (ex_bF' rfl (by decide +kernel)) ?_
  refine ex_sF rfl ?_
  refine ex_sF rfl ?_
  refine ex_sF rfl ?_
  refine ex_sF rfl ?_
  refine ex_sF rfl ?_
  refine ex_sF (ex_bF2 rfl (by decide +kernel)) ?_
  refine ex_sF rfl ?_
  refine ex_sF rfl ?_
  refine ex_sF rfl ?_
  refine ex_sF rfl ?_
  refine ex_sF rfl ?_
  refine ex_sF rfl ?_
  refine ex_sF rfl ?_
  refine ex_sF rfl ?_
  refine ex_sF (ex_bB rfl rfl (by decide +kernel)) ?_
  refine ex_sF rfl ?_
  refine ex_sF rfl ?_
  refine ex_sF rfl ?_
  refine ex_sF rfl ?_
  refine ex_sF rfl ?_
  refine ex_sF rfl ?_
  refine ex_sF rfl ?_
  refine ex_sF rfl ?_
  refine ex_sF rfl ?_
  refine ex_sF (ex_bT rfl (by decide +kernel)) ?_
  exact ex_rF rfl
  refine ex_sF rfl ?_
  refine ex_sF rfl ?_
  apply ex_cFn
  exact rfl
  refine ex_uF rfl rfl ?_
  refine ex_sF rfl ?_
  refine ex_sF rfl ?_
  refine ex_sF rfl ?_
  refine ex_sF (ex_bF' rfl (by decide +kernel)) ?_
  refine ex_sF rfl ?_
  refine ex_sF rfl ?_
  refine ex_sF (ex_bF' rfl (by decide +kernel)) ?_
  refine ex_sF rfl ?_
  refine ex_sF rfl ?_
  refine ex_sF rfl ?_
  refine ex_sF rfl ?_
  refine ex_sF rfl ?_
  refine ex_sF (ex_bF2 rfl (by decide +kernel)) ?_
  refine ex_sF rfl ?_
  refine ex_sF rfl ?_
  refine ex_sF rfl ?_
  refine ex_sF rfl ?_
  refine ex_sF rfl ?_
  refine ex_sF rfl ?_
  refine ex_sF rfl ?_
  refine ex_sF rfl ?_
  refine ex_sF (ex_bB rfl rfl (by decide +kernel)) ?_
  refine ex_sF rfl ?_
  refine ex_sF rfl ?_
  refine ex_sF rfl ?_
  refine ex_sF rfl ?_
  refine ex_sF rfl ?_
  refine ex_sF rfl ?_
  refine ex_sF rfl ?_
  refine ex_sF rfl ?_
  refine ex_sF rfl ?_
  refine ex_sF (ex_bF' rfl (by decide +kernel)) ?_
  refine ex_sF rfl ?_
  refine ex_sF rfl ?_
  refine ex_sF (ex_bF' rfl (by decide +kernel)) ?_
  refine ex_sF rfl ?_
  refine ex_sF rfl ?_
  refine ex_sF rfl ?_
  refine ex_sF rfl ?_
  refine ex_sF rfl ?_
  refine ex_sF (ex_bF2 rfl (by decide +kernel)) ?_
  refine ex_sF rfl ?_
  refine ex_sF rfl ?_
  refine ex_sF rfl ?_
  refine ex_sF rfl ?_
  refine ex_sF rfl ?_
  refine ex_sF rfl ?_
  refine ex_sF rfl ?_
  refine ex_sF rfl ?_
  refine ex_sF (ex_bB rfl rfl (by decide +kernel)) ?_
  refine ex_sF rfl ?_
  refine ex_sF rfl ?_
  refine ex_sF rfl ?_
  refine ex_sF rfl ?_
  refine ex_sF rfl ?_
  refine ex_sF rfl ?_
  refine ex_sF rfl ?_
  refine ex_sF rfl ?_
  refine ex_sF rfl ?_
  refine ex_sF (ex_bF' rfl (by decide +kernel)) ?_
  refine ex_sF rfl ?_
  refine ex_sF rfl ?_
  refine ex_sF (ex_bF' rfl (by decide +kernel)) ?_
  refine ex_sF rfl ?_
  refine ex_sF rfl ?_
  refine ex_sF rfl ?_
  refine ex_sF rfl ?_
  refine ex_sF rfl ?_
  refine ex_sF (ex_bF2 rfl (by decide +kernel)) ?_
  refine ex_sF rfl ?_
  refine ex_sF rfl ?_
  refine ex_sF rfl ?_
  refine ex_sF rfl ?_
  refine ex_sF rfl ?_
  refine ex_sF rfl ?_
  refine ex_sF rfl ?_
  refine ex_sF rfl ?_
  refine ex_sF (ex_bB rfl rfl (by decide +kernel)) ?_
  refine ex_sF rfl ?_
  refine ex_sF rfl ?_
  refine ex_sF rfl ?_
  refine ex_sF rfl ?_
  refine ex_sF rfl ?_
  refine ex_sF rfl ?_
  refine ex_sF rfl ?_
  refine ex_sF rfl ?_
  refine ex_sF rfl ?_
  refine ex_sF (ex_bF' rfl (by decide +kernel)) ?_
  refine ex_sF rfl ?_
  refine ex_sF rfl ?_
  refine ex_sF (ex_bF' rfl (by decide +kernel)) ?_
  refine ex_sF rfl ?_
  refine ex_sF rfl ?_
  refine ex_sF rfl ?_
  refine ex_sF rfl ?_
  refine ex_sF rfl ?_
  refine ex_sF (ex_bF2 rfl (by decide +kernel)) ?_
  refine ex_sF rfl ?_
  refine ex_sF rfl ?_
  refine ex_sF rfl ?_
  refine ex_sF rfl ?_
  refine ex_sF rfl ?_
  refine ex_sF rfl ?_
  refine ex_sF rfl ?_
  refine ex_sF rfl ?_
  refine ex_sF (ex_bB rfl rfl (by decide +kernel)) ?_
  refine ex_sF rfl ?_
  refine ex_sF rfl ?_
  refine ex_sF rfl ?_
  refine ex_sF rfl ?_
  refine ex_sF rfl ?_
  refine ex_sF rfl ?_
  refine ex_sF rfl ?_
  refine ex_sF rfl ?_
  refine ex_sF rfl ?_
  refine ex_sF (ex_bT rfl (by decide +kernel)) ?_
  exact ex_rF rfl
  refine ex_sF rfl ?_
  refine ex_sF rfl ?_
  exact ex_rF rfl
  refine ex_uF rfl rfl ?_
  refine ex_sF rfl ?_
  refine ex_sF rfl ?_
  refine ex_sF rfl ?_
  refine ex_sF rfl ?_
  refine ex_sF rfl ?_
  refine ex_sF (ex_bT2 rfl (by decide +kernel)) ?_
  refine ex_sF rfl ?_
  refine ex_sF rfl ?_
  apply ex_cFn
  exact rfl
  refine ex_uF rfl rfl ?_
  refine ex_sF rfl ?_
  refine ex_sF rfl ?_
  refine ex_sF rfl ?_
  refine ex_sF (ex_bF' rfl (by decide +kernel)) ?_
  refine ex_sF rfl ?_
  refine ex_sF rfl ?_
  refine ex_sF rfl ?_
  refine ex_sF rfl ?_
  refine ex_sF rfl ?_
  refine ex_sF rfl ?_
  refine ex_sF rfl ?_
  refine ex_sF rfl ?_
  refine ex_sF (ex_bB rfl rfl (by decide +kernel)) ?_
  refine ex_sF rfl ?_
  refine ex_sF rfl ?_
  refine ex_sF rfl ?_
  refine ex_sF rfl ?_
  refine ex_sF rfl ?_
  refine ex_sF rfl ?_
  refine ex_sF rfl ?_
  refine ex_sF rfl ?_
  refine ex_sF rfl ?_
  refine ex_sF (ex_bF' rfl (by decide +kernel)) ?_
  refine ex_sF rfl ?_
  refine ex_sF rfl ?_
  refine ex_sF rfl ?_
  refine ex_sF rfl ?_
  refine ex_sF rfl ?_
  refine ex_sF rfl ?_
  refine ex_sF rfl ?_
  refine ex_sF rfl ?_
  refine ex_sF (ex_bB rfl rfl (by decide +kernel)) ?_
  refine ex_sF rfl ?_
  refine ex_sF rfl ?_
  refine ex_sF rfl ?_
  refine ex_sF rfl ?_
  refine ex_sF rfl ?_
  refine ex_sF rfl ?_
  refine ex_sF rfl ?_
  refine ex_sF rfl ?_
  refine ex_sF rfl ?_
  refine ex_sF (ex_bF' rfl (by decide +kernel)) ?_
  refine ex_sF rfl ?_
  refine ex_sF rfl ?_
  refine ex_sF rfl ?_
  refine ex_sF rfl ?_
  refine ex_sF rfl ?_
  refine ex_sF rfl ?_
  refine ex_sF rfl ?_
  refine ex_sF rfl ?_
  refine ex_sF (ex_bB rfl rfl (by decide +kernel)) ?_
  refine ex_sF rfl ?_
  refine ex_sF rfl ?_
  refine ex_sF rfl ?_
  refine ex_sF rfl ?_
  refine ex_sF rfl ?_
  refine ex_sF rfl ?_
  refine ex_sF rfl ?_
  refine ex_sF rfl ?_
  refine ex_sF rfl ?_
  refine ex_sF (ex_bF' rfl (by decide +kernel)) ?_
  refine ex_sF rfl ?_
  refine ex_sF rfl ?_
  refine ex_sF rfl ?_
  refine ex_sF rfl ?_
  refine ex_sF rfl ?_
  refine ex_sF rfl ?_
  refine ex_sF rfl ?_
  refine ex_sF rfl ?_
  refine ex_sF (ex_bB rfl rfl (by decide +kernel)) ?_
  refine ex_sF rfl ?_
  refine ex_sF rfl ?_
  refine ex_sF rfl ?_
  refine ex_sF rfl ?_
  refine ex_sF rfl ?_
  refine ex_sF rfl ?_
  refine ex_sF rfl ?_
  refine ex_sF rfl ?_
  refine ex_sF rfl ?_
  refine ex_sF (ex_bT rfl (by decide +kernel)) ?_
  exact ex_rF rfl
  refine ex_sF rfl ?_
  refine ex_sF rfl ?_
  apply ex_cFn
  exact rfl
  refine ex_uF rfl rfl ?_
  refine ex_sF rfl ?_
  refine ex_sF rfl ?_
  refine ex_sF rfl ?_
  refine ex_sF (ex_bF' rfl (by decide +kernel)) ?_
  refine ex_sF rfl ?_
  refine ex_sF rfl ?_
  refine ex_sF rfl ?_
  refine ex_sF rfl ?_
  refine ex_sF rfl ?_
  refine ex_sF rfl ?_
  refine ex_sF rfl ?_
  refine ex_sF rfl ?_
  refine ex_sF (ex_bB rfl rfl (by decide +kernel)) ?_
  refine ex_sF rfl ?_
  refine ex_sF rfl ?_
  refine ex_sF rfl ?_
  refine ex_sF rfl ?_
  refine ex_sF rfl ?_
  refine ex_sF rfl ?_
  refine ex_sF rfl ?_
  refine ex_sF rfl ?_
  refine ex_sF rfl ?_
  refine ex_sF (ex_bF' rfl (by decide +kernel)) ?_
  refine ex_sF rfl ?_
  refine ex_sF rfl ?_
  refine ex_sF rfl ?_
  refine ex_sF rfl ?_
  refine ex_sF rfl ?_
  refine ex_sF rfl ?_
  refine ex_sF rfl ?_
  refine ex_sF rfl ?_
  refine ex_sF (ex_bB rfl rfl (by decide +kernel)) ?_
  refine ex_sF rfl ?_
  refine ex_sF rfl ?_
  refine ex_sF rfl ?_
  refine ex_sF rfl ?_
  refine ex_sF rfl ?_
  refine ex_sF rfl ?_
  refine ex_sF rfl ?_
  refine ex_sF rfl ?_
  refine ex_sF rfl ?_
  refine ex_sF (ex_bF' rfl (by decide +kernel)) ?_
  refine ex_sF rfl ?_
  refine ex_sF rfl ?_
  refine ex_sF rfl ?_
  refine ex_sF rfl ?_
  refine ex_sF rfl ?_
  refine ex_sF rfl ?_
  refine ex_sF rfl ?_
  refine ex_sF rfl ?_
  refine ex_sF (ex_bB rfl rfl (by decide +kernel)) ?_
  refine ex_sF rfl ?_
  refine ex_sF rfl ?_
  refine ex_sF rfl ?_
  refine ex_sF rfl ?_
  refine ex_sF rfl ?_
  refine ex_sF rfl ?_
  refine ex_sF rfl ?_
  refine ex_sF rfl ?_
  refine ex_sF rfl ?_
  refine ex_sF (ex_bF' rfl (by decide +kernel)) ?_
  refine ex_sF rfl ?_
  refine ex_sF rfl ?_
  refine ex_sF rfl ?_
  refine ex_sF rfl ?_
  refine ex_sF rfl ?_
  refine ex_sF rfl ?_
  refine ex_sF rfl ?_
  refine ex_sF rfl ?_
  refine ex_sF (ex_bB rfl rfl (by decide +kernel)) ?_
  refine ex_sF rfl ?_
  refine ex_sF rfl ?_
  refine ex_sF rfl ?_
  refine ex_sF rfl ?_
  refine ex_sF rfl ?_
  refine ex_sF rfl ?_
  refine ex_sF rfl ?_
  refine ex_sF rfl ?_
  refine ex_sF rfl ?_
  refine ex_sF (ex_bT rfl (by decide +kernel)) ?_
  exact ex_rF rfl
  refine ex_sF rfl ?_
  refine ex_sF rfl ?_
  apply ex_cFn
  exact rfl
  refine ex_uF rfl rfl ?_
  refine ex_sF rfl ?_
  refine ex_sF rfl ?_
  refine ex_sF rfl ?_
  refine ex_sF (ex_bF' rfl (by decide +kernel)) ?_
  refine ex_sF rfl ?_
  refine ex_sF rfl ?_
  refine ex_sF rfl ?_
  refine ex_sF rfl ?_
  refine ex_sF rfl ?_
  refine ex_sF rfl ?_
  refine ex_sF rfl ?_
  refine ex_sF rfl ?_
  refine ex_sF (ex_bB rfl rfl (by decide +kernel)) ?_
  refine ex_sF rfl ?_
  refine ex_sF rfl ?_
  refine ex_sF rfl ?_
  refine ex_sF rfl ?_
  refine ex_sF rfl ?_
  refine ex_sF rfl ?_
  refine ex_sF rfl ?_
  refine ex_sF rfl ?_
  refine ex_sF rfl ?_
  refine ex_sF (ex_bF' rfl (by decide +kernel)) ?_
  refine ex_sF rfl ?_
  refine ex_sF rfl ?_
  refine ex_sF rfl ?_
  refine ex_sF rfl ?_
  refine ex_sF rfl ?_
  refine ex_sF rfl ?_
  refine ex_sF rfl ?_
  refine ex_sF rfl ?_
  refine ex_sF (ex_bB rfl rfl (by decide +kernel)) ?_
  refine ex_sF rfl ?_
  refine ex_sF rfl ?_
  refine ex_sF rfl ?_
  refine ex_sF rfl ?_
  refine ex_sF rfl ?_
  refine ex_sF rfl ?_
  refine ex_sF rfl ?_
  refine ex_sF rfl ?_
  refine ex_sF rfl ?_
  refine ex_sF (ex_bF' rfl (by decide +kernel)) ?_
  refine ex_sF rfl ?_
  refine ex_sF rfl ?_
  refine ex_sF rfl ?_
  refine ex_sF rfl ?_
  refine ex_sF rfl ?_
  refine ex_sF rfl ?_
  refine ex_sF rfl ?_
  refine ex_sF rfl ?_
  refine ex_sF (ex_bB rfl rfl (by decide +kernel)) ?_
  refine ex_sF rfl ?_
  refine ex_sF rfl ?_
  refine ex_sF rfl ?_
  refine ex_sF rfl ?_
  refine ex_sF rfl ?_
  refine ex_sF rfl ?_
  refine ex_sF rfl ?_
  refine ex_sF rfl ?_
  refine ex_sF rfl ?_
  refine ex_sF (ex_bF' rfl (by decide +kernel)) ?_
  refine ex_sF rfl ?_
  refine ex_sF rfl ?_
  refine ex_sF rfl ?_
  refine ex_sF rfl ?_
  refine ex_sF rfl ?_
  refine ex_sF rfl ?_
  refine ex_sF rfl ?_
  refine ex_sF rfl ?_
  refine ex_sF (ex_bB rfl rfl (by decide +kernel)) ?_
  refine ex_sF rfl ?_
  refine ex_sF rfl ?_
  refine ex_sF rfl ?_
  refine ex_sF rfl ?_
  refine ex_sF rfl ?_
  refine ex_sF rfl ?_
  refine ex_sF rfl ?_
  refine ex_sF rfl ?_
  refine ex_sF rfl ?_
  refine ex_sF (ex_bT rfl (by decide +kernel)) ?_
  exact ex_rF rfl
  refine ex_sF rfl ?_
  refine ex_sF rfl ?_
  apply ex_cFn
  exact rfl
  refine ex_uF rfl rfl ?_
  refine ex_sF rfl ?_
  refine ex_sF rfl ?_
  refine ex_sF rfl ?_
  refine ex_sF (ex_bF' rfl (by decide +kernel)) ?_
  refine ex_sF rfl ?_
  refine ex_sF rfl ?_
  refine ex_sF rfl ?_
  refine ex_sF rfl ?_
  refine ex_sF rfl ?_
  refine ex_sF rfl ?_
  refine ex_sF rfl ?_
  refine ex_sF rfl ?_
  refine ex_sF (ex_bB rfl rfl (by decide +kernel)) ?_
  refine ex_sF rfl ?_
  refine ex_sF rfl ?_
  refine ex_sF rfl ?_
  refine ex_sF rfl ?_
  refine ex_sF rfl ?_
  refine ex_sF rfl ?_
  refine ex_sF rfl ?_
  refine ex_sF rfl ?_
  refine ex_sF rfl ?_
  refine ex_sF (ex_bF' rfl (by decide +kernel)) ?_
  refine ex_sF rfl ?_
  refine ex_sF rfl ?_
  refine ex_sF rfl ?_
  refine ex_sF rfl ?_
  refine ex_sF rfl ?_
  refine ex_sF rfl ?_
  refine ex_sF rfl ?_
  refine ex_sF rfl ?_
  refine ex_sF (ex_bB rfl rfl (by decide +kernel)) ?_
  refine ex_sF rfl ?_
  refine ex_sF rfl ?_
  refine ex_sF rfl ?_
  refine ex_sF rfl ?_
  refine ex_sF rfl ?_
  refine ex_sF rfl ?_
  refine ex_sF rfl ?_
  refine ex_sF rfl ?_
  refine ex_sF rfl ?_
  refine ex_sF (ex_bF' rfl (by decide +kernel)) ?_
  refine ex_sF rfl ?_
  refine ex_sF rfl ?_
  refine ex_sF rfl ?_
  refine ex_sF rfl ?_
  refine ex_sF rfl ?_
  refine ex_sF rfl ?_
  refine ex_sF rfl ?_
  refine ex_sF rfl ?_
  refine ex_sF (ex_bB rfl rfl (by decide +kernel)) ?_
  refine ex_sF rfl ?_
  refine ex_sF rfl ?_
  refine ex_sF rfl ?_
  refine ex_sF rfl ?_
  refine ex_sF rfl ?_
  refine ex_sF rfl ?_
  refine ex_sF rfl ?_
  refine ex_sF rfl ?_
  refine ex_sF rfl ?_
  refine ex_sF (ex_bF' rfl (by decide +kernel)) ?_
  refine ex_sF rfl ?_
  refine ex_sF rfl ?_
  refine ex_sF rfl ?_
  refine ex_sF rfl ?_
  refine ex_sF rfl ?_
  refine ex_sF rfl ?_
  refine ex_sF rfl ?_
  refine ex_sF rfl ?_
  refine ex_sF (ex_bB rfl rfl (by decide +kernel)) ?_
  refine ex_sF rfl ?_
  refine ex_sF rfl ?_
  refine ex_sF rfl ?_
  refine ex_sF rfl ?_
  refine ex_sF rfl ?_
  refine ex_sF rfl ?_
  refine ex_sF rfl ?_
  refine ex_sF rfl ?_
  refine ex_sF rfl ?_
  refine ex_sF (ex_bT rfl (by decide +kernel)) ?_
  exact ex_rF rfl
  refine ex_sF rfl ?_
  refine ex_sF rfl ?_
  apply ex_cFn
  exact rfl
  refine ex_uF rfl rfl ?_
  refine ex_sF rfl ?_
  refine ex_sF rfl ?_
  refine ex_sF rfl ?_
  refine ex_sF (ex_bF' rfl (by decide +kernel)) ?_
  refine ex_sF rfl ?_
  refine ex_sF rfl ?_
  refine ex_sF rfl ?_
  refine ex_sF rfl ?_
  refine ex_sF rfl ?_
  refine ex_sF rfl ?_
  refine ex_sF rfl ?_
  refine ex_sF rfl ?_
  refine ex_sF (ex_bB rfl rfl (by decide +kernel)) ?_
  refine ex_sF rfl ?_
  refine ex_sF rfl ?_
  refine ex_sF rfl ?_
  refine ex_sF rfl ?_
  refine ex_sF rfl ?_
  refine ex_sF rfl ?_
  refine ex_sF rfl ?_
  refine ex_sF rfl ?_
  refine ex_sF rfl ?_
  refine ex_sF (ex_bF' rfl (by decide +kernel)) ?_
  refine ex_sF rfl ?_
  refine ex_sF rfl ?_
  refine ex_sF rfl ?_
  refine ex_sF rfl ?_
  refine ex_sF rfl ?_
  refine ex_sF rfl ?_
  refine ex_sF rfl ?_
  refine ex_sF rfl ?_
  refine ex_sF (ex_bB rfl rfl (by decide +kernel)) ?_
  refine ex_sF rfl ?_
  refine ex_sF rfl ?_
  refine ex_sF rfl ?_
  refine ex_sF rfl ?_
  refine ex_sF rfl ?_
  refine ex_sF rfl ?_
  refine ex_sF rfl ?_
  refine ex_sF rfl ?_
  refine ex_sF rfl ?_
  refine ex_sF (ex_bF' rfl (by decide +kernel)) ?_
  refine ex_sF rfl ?_
  refine ex_sF rfl ?_
  refine ex_sF rfl ?_
  refine ex_sF rfl ?_
  refine ex_sF rfl ?_
  refine ex_sF rfl ?_
  refine ex_sF rfl ?_
  refine ex_sF rfl ?_
  refine ex_sF (ex_bB rfl rfl (by decide +kernel)) ?_
  refine ex_sF rfl ?_
  refine ex_sF rfl ?_
  refine ex_sF rfl ?_
  refine ex_sF rfl ?_
  refine ex_sF rfl ?_
  refine ex_sF rfl ?_
  refine ex_sF rfl ?_
  refine ex_sF rfl ?_
  refine ex_sF rfl ?_
  refine ex_sF (ex_bF' rfl (by decide +kernel)) ?_
  refine ex_sF rfl ?_
  refine ex_sF rfl ?_
  refine ex_sF rfl ?_
  refine ex_sF rfl ?_
  refine ex_sF rfl ?_
  refine ex_sF rfl ?_
  refine ex_sF rfl ?_
  refine ex_sF rfl ?_
  refine ex_sF (ex_bB rfl rfl (by decide +kernel)) ?_
  refine ex_sF rfl ?_
  refine ex_sF rfl ?_
  refine ex_sF rfl ?_
  refine ex_sF rfl ?_
  refine ex_sF rfl ?_
  refine ex_sF rfl ?_
  refine ex_sF rfl ?_
  refine ex_sF rfl ?_
  refine ex_sF rfl ?_
  refine ex_sF (ex_bT rfl (by decide +kernel)) ?_
  exact ex_rF rfl
  refine ex_sF rfl ?_
  refine ex_sF rfl ?_
  exact ex_rF rfl
  · (try simp only [ex_set_len]); exact Nat.le_of_ble_eq_true rfl
  · (try simp only [ex_set_two]); exact Nat.le_of_ble_eq_true rfl
  · repeat rw [ex_set_nth (by decide +kernel)]
    exact rfl
set_option maxRecDepth 100000 in
theorem ex_e_cut1 (N : Nat) (a : Int32) (h1 : ex_lt0 a = true) : ex_Both (N + 60) 29 63 [.ref 148, .int a] [.ref 219, .int a] := by
  apply ex_Both_i (-1)
  refine ex_uF rfl rfl ?_
  refine ex_sF rfl ?_
  refine ex_sF (ex_bT rfl h1) ?_
  refine ex_sF rfl ?_
  exact ex_rF rfl
  refine ex_uF rfl rfl ?_
  refine ex_sF rfl ?_
  refine ex_sF (ex_bT rfl h1) ?_
  refine ex_sF rfl ?_
  exact ex_rF rfl
  · (try simp only [ex_set_len]); exact Nat.le_of_ble_eq_true rfl
  · (try simp only [ex_set_two]); exact Nat.le_of_ble_eq_true rfl
  · repeat rw [ex_set_nth (by decide +kernel)]
    exact rfl
set_option maxRecDepth 100000 in
theorem ex_e_cut2 (N : Nat) (a : Int32) (h1 : ex_lt0 a = false) (h2 : ex_le a 0 = false) : ex_Both (N + 60) 29 63 [.ref 148, .int a] [.ref 219, .int a] := by
  apply ex_Both_i (-1)
  refine ex_uF rfl rfl ?_
  refine ex_sF rfl ?_
  refine ex_sF (ex_bF' rfl h1) ?_
  refine ex_sF rfl ?_
  refine ex_sF rfl ?_
  refine ex_sF rfl ?_
  refine ex_sF (ex_bF2 rfl h2) ?_
  refine ex_sF rfl ?_
  exact ex_rF rfl
  refine ex_uF rfl rfl ?_
  refine ex_sF rfl ?_
  refine ex_sF (ex_bF' rfl h1) ?_
  refine ex_sF rfl ?_
  refine ex_sF rfl ?_
  refine ex_sF rfl ?_
  refine ex_sF (ex_bF2 rfl h2) ?_
  refine ex_sF rfl ?_
  exact ex_rF rfl
  · (try simp only [ex_set_len]); exact Nat.le_of_ble_eq_true rfl
  · (try simp only [ex_set_two]); exact Nat.le_of_ble_eq_true rfl
  · repeat rw [ex_set_nth (by decide +kernel)]
    exact rfl
set_option maxRecDepth 100000 in
theorem ex_e_cut3 (N : Nat)  : ex_Both (N + 60) 29 63 [.ref 148, .int 0] [.ref 219, .int 0] := by
  apply ex_Both_i 0
  refine ex_uF rfl rfl ?_
  refine ex_sF rfl ?_
  refine ex_sF (ex_bF' rfl (by decide +kernel)) ?_
  refine ex_sF rfl ?_
  refine ex_sF rfl ?_
  refine ex_sF rfl ?_
  refine ex_sF (ex_bT2 rfl (by decide +kernel)) ?_
  refine ex_sF rfl ?_
  refine ex_sF rfl ?_
  refine ex_sF rfl ?_
  refine ex_sF rfl ?_
  refine ex_sF rfl ?_
  refine ex_sF rfl ?_
  refine ex_sF rfl ?_
  refine ex_sF rfl ?_
  refine ex_sF rfl ?_
  exact ex_rF rfl
  refine ex_uF rfl rfl ?_
  refine ex_sF rfl ?_
  refine ex_sF (ex_bF' rfl (by decide +kernel)) ?_
  refine ex_sF rfl ?_
  refine ex_sF rfl ?_
  refine ex_sF rfl ?_
  refine ex_sF (ex_bT2 rfl (by decide +kernel)) ?_
  refine ex_sF rfl ?_
  refine ex_sF rfl ?_
  refine ex_sF rfl ?_
  refine ex_sF rfl ?_
  refine ex_sF rfl ?_
  refine ex_sF rfl ?_
  refine ex_sF rfl ?_
  refine ex_sF rfl ?_
  refine ex_sF rfl ?_
  exact ex_rF rfl
  · (try simp only [ex_set_len]); exact Nat.le_of_ble_eq_true rfl
  · (try simp only [ex_set_two]); exact Nat.le_of_ble_eq_true rfl
  · repeat rw [ex_set_nth (by decide +kernel)]
    exact rfl
theorem ex_e_cut (N : Nat) (a : Int32) : ex_Both (N + 60) 29 63 [.ref 148, .int a] [.ref 219, .int a] := by
  cases h1 : ex_lt0 a with
  | true => exact ex_e_cut1 N a h1
  | false =>
    cases h2 : ex_le a 0 with
    | false => exact ex_e_cut2 N a h1 h2
    | true =>
      have e : a = 0 := Int32.le_antisymm (ex_le_t.mp h2) (Int32.not_lt.mp ((ex_bF ex_lt0_t).mp h1))
      subst e
      exact ex_e_cut3 N
theorem ex_e_load : ex_Both 1000000 43 80 [.ref 148] [.ref 219] := ex_both_s (by decide +kernel)
set_option maxRecDepth 100000 in
theorem ex_e_fault0 (N : Nat)  : ex_Both (N + 60) 33 68 [.ref 148, .int 0] [.ref 219, .int 0] := by
  apply ex_Both_i 0
  refine ex_uF rfl rfl ?_
  refine ex_sF rfl ?_
  refine ex_sF (ex_bI (t := 32) (off := 31) rfl (by decide +kernel) (by decide +kernel) rfl) ?_
  refine ex_sF rfl ?_
  refine ex_sF rfl ?_
  exact ex_rF rfl
  refine ex_uF rfl rfl ?_
  refine ex_sF rfl ?_
  refine ex_sF (ex_bF' rfl (by decide +kernel)) ?_
  refine ex_sF rfl ?_
  refine ex_sF rfl ?_
  refine ex_sF rfl ?_
  exact ex_rF rfl
  · (try simp only [ex_set_len]); exact Nat.le_of_ble_eq_true rfl
  · (try simp only [ex_set_two]); exact Nat.le_of_ble_eq_true rfl
  · repeat rw [ex_set_nth (by decide +kernel)]
    exact rfl
set_option maxRecDepth 100000 in
theorem ex_e_fault1 (N : Nat)  : ex_Both (N + 60) 33 68 [.ref 148, .int 1] [.ref 219, .int 1] := by
  apply ex_Both_i (-1)
  refine ex_uF rfl rfl ?_
  refine ex_sF rfl ?_
  refine ex_sF (ex_bI (t := 37) (off := 36) rfl (by decide +kernel) (by decide +kernel) rfl) ?_
  refine ex_sF rfl ?_
  refine ex_sF rfl ?_
  exact ex_rF rfl
  refine ex_uF rfl rfl ?_
  refine ex_sF rfl ?_
  refine ex_sF (ex_bT rfl (by decide +kernel)) ?_
  refine ex_sF rfl ?_
  refine ex_sF rfl ?_
  refine ex_sF (ex_bF2 rfl (by decide +kernel)) ?_
  refine ex_sF rfl ?_
  refine ex_sF rfl ?_
  refine ex_sF rfl ?_
  exact ex_rF rfl
  · (try simp only [ex_set_len]); exact Nat.le_of_ble_eq_true rfl
  · (try simp only [ex_set_two]); exact Nat.le_of_ble_eq_true rfl
  · repeat rw [ex_set_nth (by decide +kernel)]
    exact rfl
set_option maxRecDepth 100000 in
theorem ex_e_fault2 (N : Nat)  : ex_Both (N + 60) 33 68 [.ref 148, .int 2] [.ref 219, .int 2] := by
  apply ex_Both_i 0
  refine ex_uF rfl rfl ?_
  refine ex_sF rfl ?_
  refine ex_sF (ex_bI (t := 42) (off := 41) rfl (by decide +kernel) (by decide +kernel) rfl) ?_
  refine ex_sF rfl ?_
  refine ex_sF rfl ?_
  exact ex_rF rfl
  refine ex_uF rfl rfl ?_
  refine ex_sF rfl ?_
  refine ex_sF (ex_bT rfl (by decide +kernel)) ?_
  refine ex_sF rfl ?_
  refine ex_sF rfl ?_
  refine ex_sF (ex_bT2 rfl (by decide +kernel)) ?_
  refine ex_sF rfl ?_
  refine ex_sF rfl ?_
  refine ex_sF (ex_bF2 rfl (by decide +kernel)) ?_
  refine ex_sF rfl ?_
  refine ex_sF rfl ?_
  refine ex_sF rfl ?_
  exact ex_rF rfl
  · (try simp only [ex_set_len]); exact Nat.le_of_ble_eq_true rfl
  · (try simp only [ex_set_two]); exact Nat.le_of_ble_eq_true rfl
  · repeat rw [ex_set_nth (by decide +kernel)]
    exact rfl
set_option maxRecDepth 100000 in
theorem ex_e_fault3 (N : Nat)  : ex_Both (N + 60) 33 68 [.ref 148, .int 3] [.ref 219, .int 3] := by
  apply ex_Both_i (-1)
  refine ex_uF rfl rfl ?_
  refine ex_sF rfl ?_
  refine ex_sF (ex_bI (t := 47) (off := 46) rfl (by decide +kernel) (by decide +kernel) rfl) ?_
  refine ex_sF rfl ?_
  refine ex_sF rfl ?_
  exact ex_rF rfl
  refine ex_uF rfl rfl ?_
  refine ex_sF rfl ?_
  refine ex_sF (ex_bT rfl (by decide +kernel)) ?_
  refine ex_sF rfl ?_
  refine ex_sF rfl ?_
  refine ex_sF (ex_bT2 rfl (by decide +kernel)) ?_
  refine ex_sF rfl ?_
  refine ex_sF rfl ?_
  refine ex_sF (ex_bT2 rfl (by decide +kernel)) ?_
  refine ex_sF rfl ?_
  refine ex_sF rfl ?_
  refine ex_sF (ex_bF2 rfl (by decide +kernel)) ?_
  refine ex_sF rfl ?_
  refine ex_sF rfl ?_
  refine ex_sF rfl ?_
  exact ex_rF rfl
  · (try simp only [ex_set_len]); exact Nat.le_of_ble_eq_true rfl
  · (try simp only [ex_set_two]); exact Nat.le_of_ble_eq_true rfl
  · repeat rw [ex_set_nth (by decide +kernel)]
    exact rfl
set_option maxRecDepth 100000 in
theorem ex_e_fault9 (N : Nat) (a : Int32) (h0 : a.toInt < 0 ∨ 3 < a.toInt) (n0 : ex_ne0 a = true) (n1 : ex_ne a 1 = true) (n2 : ex_ne a 2 = true) (n3 : ex_ne a 3 = true) : ex_Both (N + 60) 33 68 [.ref 148, .int a] [.ref 219, .int a] := by
  apply ex_Both_i (-1)
  refine ex_uF rfl rfl ?_
  refine ex_sF rfl ?_
  refine ex_sF (ex_bO (t := 52) rfl h0 rfl) ?_
  refine ex_sF rfl ?_
  exact ex_rF rfl
  refine ex_uF rfl rfl ?_
  refine ex_sF rfl ?_
  refine ex_sF (ex_bT rfl n0) ?_
  refine ex_sF rfl ?_
  refine ex_sF rfl ?_
  refine ex_sF (ex_bT2 rfl n1) ?_
  refine ex_sF rfl ?_
  refine ex_sF rfl ?_
  refine ex_sF (ex_bT2 rfl n2) ?_
  refine ex_sF rfl ?_
  refine ex_sF rfl ?_
  refine ex_sF (ex_bT2 rfl n3) ?_
  refine ex_sF rfl ?_
  exact ex_rF rfl
  · (try simp only [ex_set_len]); exact Nat.le_of_ble_eq_true rfl
  · (try simp only [ex_set_two]); exact Nat.le_of_ble_eq_true rfl
  · repeat rw [ex_set_nth (by decide +kernel)]
    exact rfl
theorem ex_e_fault (N : Nat) (a : Int32) : ex_Both (N + 60) 33 68 [.ref 148, .int a] [.ref 219, .int a] := by
  by_cases h0 : a = 0
  · subst h0; exact ex_e_fault0 N
  by_cases h1 : a = 1
  · subst h1; exact ex_e_fault1 N
  by_cases h2 : a = 2
  · subst h2; exact ex_e_fault2 N
  by_cases h3 : a = 3
  · subst h3; exact ex_e_fault3 N
  refine ex_e_fault9 N a ?_ (ex_ne0_t.mpr h0) (ex_ne_t.mpr h1) (ex_ne_t.mpr h2) (ex_ne_t.mpr h3)
  have q0 : ¬ a.toInt = 0 := fun q => h0 (Int32.toInt_inj.mp q)
  have q1 : ¬ a.toInt = 1 := fun q => h1 (Int32.toInt_inj.mp q)
  have q2 : ¬ a.toInt = 2 := fun q => h2 (Int32.toInt_inj.mp q)
  have q3 : ¬ a.toInt = 3 := fun q => h3 (Int32.toInt_inj.mp q)
  omega
theorem ex_e_objects : ex_Both 1000000 46 83 [.ref 148] [.ref 219] := ex_both_s (by decide +kernel)
set_option maxRecDepth 100000 in
theorem ex_e_go (N : Nat) (a : Int32) : ex_Both (N + 60) 36 71 [.ref 148, .int a] [.ref 219, .int a] := by
  apply ex_Both_i (-1)
  refine ex_uF rfl rfl ?_
  refine ex_sF rfl ?_
  refine ex_sF rfl ?_
  refine ex_sF rfl ?_
  refine ex_sF rfl ?_
  refine ex_sF rfl ?_
  refine ex_sF (ex_bT rfl (by decide +kernel)) ?_
  refine ex_sF rfl ?_
  exact ex_rF rfl
  refine ex_uF rfl rfl ?_
  refine ex_sF rfl ?_
  refine ex_sF rfl ?_
  refine ex_sF rfl ?_
  refine ex_sF rfl ?_
  refine ex_sF rfl ?_
  apply ex_cFv
  exact rfl
  refine ex_uF rfl rfl ?_
  refine ex_sF rfl ?_
  refine ex_sF rfl ?_
  refine ex_sF (ex_bT rfl (by decide +kernel)) ?_
  refine ex_sF rfl ?_
  exact ex_rF rfl
  refine ex_sF (ex_bF' rfl (by decide +kernel)) ?_
  refine ex_sF rfl ?_
  exact ex_rF rfl
  · (try simp only [ex_set_len]); exact Nat.le_of_ble_eq_true rfl
  · (try simp only [ex_set_two]); exact Nat.le_of_ble_eq_true rfl
  · repeat rw [ex_set_nth (by decide +kernel)]
    exact rfl
set_option maxRecDepth 100000 in
theorem ex_e_down (N : Nat) (a : Int32) : ex_Both (N + 60) 32 66 [.ref 148, .int a] [.ref 219, .int a] := by
  apply ex_Both_i (-1)
  refine ex_uF rfl rfl ?_
  refine ex_sF rfl ?_
  apply ex_cFv
  exact rfl
  refine ex_uF rfl rfl ?_
  refine ex_sF rfl ?_
  refine ex_sF rfl ?_
  refine ex_sF (ex_bT rfl (by decide +kernel)) ?_
  refine ex_sF rfl ?_
  refine ex_sF rfl ?_
  exact ex_rF rfl
  refine ex_sF (ex_bT rfl (by decide +kernel)) ?_
  refine ex_sF rfl ?_
  exact ex_rF rfl
  refine ex_uF rfl rfl ?_
  refine ex_sF rfl ?_
  refine ex_sF rfl ?_
  refine ex_sF (ex_bT rfl (by decide +kernel)) ?_
  refine ex_sF rfl ?_
  exact ex_rF rfl
  · (try simp only [ex_set_len]); exact Nat.le_of_ble_eq_true rfl
  · (try simp only [ex_set_two]); exact Nat.le_of_ble_eq_true rfl
  · repeat rw [ex_set_nth (by decide +kernel)]
    exact rfl
theorem ex_e_up : ex_Both 1000000 56 94 [.ref 148] [.ref 219] := ex_both_s (by decide +kernel)
set_option maxRecDepth 100000 in
theorem ex_e_here (N : Nat) (a : Int32) : ex_Both (N + 60) 37 73 [.ref 148, .int a] [.ref 219, .int a] := by
  apply ex_Both_i (-1)
  refine ex_uF rfl rfl ?_
  refine ex_sF rfl ?_
  apply ex_cFv
  exact rfl
  refine ex_uF rfl rfl ?_
  refine ex_sF rfl ?_
  refine ex_sF rfl ?_
  refine ex_sF (ex_bT rfl (by decide +kernel)) ?_
  refine ex_sF rfl ?_
  refine ex_sF rfl ?_
  exact ex_rF rfl
  refine ex_sF (ex_bT rfl (by decide +kernel)) ?_
  refine ex_sF rfl ?_
  exact ex_rF rfl
  refine ex_uF rfl rfl ?_
  refine ex_sF rfl ?_
  refine ex_sF rfl ?_
  refine ex_sF (ex_bT rfl (by decide +kernel)) ?_
  refine ex_sF rfl ?_
  exact ex_rF rfl
  · (try simp only [ex_set_len]); exact Nat.le_of_ble_eq_true rfl
  · (try simp only [ex_set_two]); exact Nat.le_of_ble_eq_true rfl
  · repeat rw [ex_set_nth (by decide +kernel)]
    exact rfl
set_option maxRecDepth 100000 in
theorem ex_e_letter (N : Nat) (a b : Int32) : ex_Both (N + 60) 42 79 [.ref 148, .int a, .int b] [.ref 219, .int a, .int b] := by
  apply ex_Both_i (-1)
  refine ex_uF rfl rfl ?_
  refine ex_sF rfl ?_
  apply ex_cFv
  exact rfl
  refine ex_uF rfl rfl ?_
  refine ex_sF rfl ?_
  refine ex_sF rfl ?_
  refine ex_sF (ex_bT rfl (by decide +kernel)) ?_
  refine ex_sF rfl ?_
  refine ex_sF rfl ?_
  exact ex_rF rfl
  refine ex_sF (ex_bF' rfl (by decide +kernel)) ?_
  refine ex_sF rfl ?_
  exact ex_rF rfl
  refine ex_uF rfl rfl ?_
  refine ex_sF rfl ?_
  refine ex_sF rfl ?_
  refine ex_sF (ex_bF' rfl (by decide +kernel)) ?_
  refine ex_sF rfl ?_
  exact ex_rF rfl
  · (try simp only [ex_set_len]); exact Nat.le_of_ble_eq_true rfl
  · (try simp only [ex_set_two]); exact Nat.le_of_ble_eq_true rfl
  · repeat rw [ex_set_nth (by decide +kernel)]
    exact rfl
set_option maxRecDepth 100000 in
theorem ex_e_size (N : Nat) (a : Int32) : ex_Both (N + 60) 52 90 [.ref 148, .int a] [.ref 219, .int a] := by
  apply ex_Both_i (-1)
  refine ex_uF rfl rfl ?_
  refine ex_sF rfl ?_
  refine ex_sF rfl ?_
  refine ex_sF (ex_bT rfl (by decide +kernel)) ?_
  refine ex_sF rfl ?_
  exact ex_rF rfl
  refine ex_uF rfl rfl ?_
  refine ex_sF rfl ?_
  refine ex_sF rfl ?_
  apply ex_cFv
  exact rfl
  refine ex_uF rfl rfl ?_
  refine ex_sF rfl ?_
  refine ex_sF rfl ?_
  refine ex_sF (ex_bT rfl (by decide +kernel)) ?_
  refine ex_sF rfl ?_
  exact ex_rF rfl
  refine ex_sF (ex_bT rfl (by decide +kernel)) ?_
  refine ex_sF rfl ?_
  exact ex_rF rfl
  · (try simp only [ex_set_len]); exact Nat.le_of_ble_eq_true rfl
  · (try simp only [ex_set_two]); exact Nat.le_of_ble_eq_true rfl
  · repeat rw [ex_set_nth (by decide +kernel)]
    exact rfl
set_option maxRecDepth 100000 in
theorem ex_e_data (N : Nat) (a b : Int32) : ex_Both (N + 60) 30 64 [.ref 148, .int a, .int b] [.ref 219, .int a, .int b] := by
  apply ex_Both_i (-1)
  refine ex_uF rfl rfl ?_
  refine ex_sF rfl ?_
  refine ex_sF rfl ?_
  refine ex_sF (ex_bT rfl (by decide +kernel)) ?_
  refine ex_sF rfl ?_
  exact ex_rF rfl
  refine ex_uF rfl rfl ?_
  refine ex_sF rfl ?_
  refine ex_sF rfl ?_
  apply ex_cFv
  exact rfl
  refine ex_uF rfl rfl ?_
  refine ex_sF rfl ?_
  refine ex_sF rfl ?_
  refine ex_sF (ex_bT rfl (by decide +kernel)) ?_
  refine ex_sF rfl ?_
  exact ex_rF rfl
  refine ex_sF (ex_bT rfl (by decide +kernel)) ?_
  refine ex_sF rfl ?_
  exact ex_rF rfl
  · (try simp only [ex_set_len]); exact Nat.le_of_ble_eq_true rfl
  · (try simp only [ex_set_two]); exact Nat.le_of_ble_eq_true rfl
  · repeat rw [ex_set_nth (by decide +kernel)]
    exact rfl
set_option maxRecDepth 100000 in
theorem ex_e_count (N : Nat) (a : Int32) : ex_Both (N + 60) 28 62 [.ref 148, .int a] [.ref 219, .int a] := by
  apply ex_Both_i (-1)
  refine ex_uF rfl rfl ?_
  refine ex_sF rfl ?_
  refine ex_sF rfl ?_
  refine ex_sF (ex_bF' rfl (by decide +kernel)) ?_
  refine ex_sF rfl ?_
  exact ex_rF rfl
  refine ex_uF rfl rfl ?_
  refine ex_sF rfl ?_
  refine ex_sF rfl ?_
  refine ex_sF (ex_bF' rfl (by decide +kernel)) ?_
  refine ex_sF rfl ?_
  exact ex_rF rfl
  · (try simp only [ex_set_len]); exact Nat.le_of_ble_eq_true rfl
  · (try simp only [ex_set_two]); exact Nat.le_of_ble_eq_true rfl
  · repeat rw [ex_set_nth (by decide +kernel)]
    exact rfl
theorem ex_e_pages : ex_Both 1000000 50 87 [.ref 148] [.ref 219] := ex_both_s (by decide +kernel)
set_option maxRecDepth 100000 in
theorem ex_e_page (N : Nat) (a b : Int32) : ex_Both (N + 60) 49 86 [.ref 148, .int a, .int b] [.ref 219, .int a, .int b] := by
  apply ex_Both_i (-1)
  refine ex_uF rfl rfl ?_
  refine ex_sF rfl ?_
  refine ex_sF rfl ?_
  refine ex_sF (ex_bF' rfl (by decide +kernel)) ?_
  refine ex_sF rfl ?_
  exact ex_rF rfl
  refine ex_uF rfl rfl ?_
  refine ex_sF rfl ?_
  refine ex_sF rfl ?_
  refine ex_sF (ex_bF' rfl (by decide +kernel)) ?_
  refine ex_sF rfl ?_
  exact ex_rF rfl
  · (try simp only [ex_set_len]); exact Nat.le_of_ble_eq_true rfl
  · (try simp only [ex_set_two]); exact Nat.le_of_ble_eq_true rfl
  · repeat rw [ex_set_nth (by decide +kernel)]
    exact rfl
set_option maxRecDepth 100000 in
theorem ex_e_show (N : Nat) (a : Int32) : ex_Both (N + 60) 51 89 [.ref 148, .int a] [.ref 219, .int a] := by
  apply ex_Both_i (-1)
  refine ex_uF rfl rfl ?_
  refine ex_sF rfl ?_
  refine ex_sF rfl ?_
  refine ex_sF (ex_bT rfl (by decide +kernel)) ?_
  refine ex_sF rfl ?_
  exact ex_rF rfl
  refine ex_uF rfl rfl ?_
  refine ex_sF rfl ?_
  refine ex_sF rfl ?_
  apply ex_cFv
  exact rfl
  refine ex_uF rfl rfl ?_
  refine ex_sF rfl ?_
  refine ex_sF rfl ?_
  refine ex_sF (ex_bT rfl (by decide +kernel)) ?_
  refine ex_sF rfl ?_
  exact ex_rF rfl
  refine ex_sF (ex_bF' rfl (by decide +kernel)) ?_
  refine ex_sF rfl ?_
  exact ex_rF rfl
  · (try simp only [ex_set_len]); exact Nat.le_of_ble_eq_true rfl
  · (try simp only [ex_set_two]); exact Nat.le_of_ble_eq_true rfl
  · repeat rw [ex_set_nth (by decide +kernel)]
    exact rfl
set_option maxRecDepth 100000 in
theorem ex_e_glyph1 (N : Nat) (a b : Int32) (h1 : ex_lt0 a = true) : ex_Both (N + 60) 35 70 [.ref 148, .int a, .int b] [.ref 219, .int a, .int b] := by
  apply ex_Both_i (-1)
  refine ex_uF rfl rfl ?_
  refine ex_sF rfl ?_
  refine ex_sF rfl ?_
  refine ex_sF (ex_bT rfl (by decide +kernel)) ?_
  refine ex_sF rfl ?_
  exact ex_rF rfl
  refine ex_uF rfl rfl ?_
  refine ex_sF rfl ?_
  refine ex_sF (ex_bT rfl h1) ?_
  refine ex_sF rfl ?_
  exact ex_rF rfl
  · (try simp only [ex_set_len]); exact Nat.le_of_ble_eq_true rfl
  · (try simp only [ex_set_two]); exact Nat.le_of_ble_eq_true rfl
  · repeat rw [ex_set_nth (by decide +kernel)]
    exact rfl
set_option maxRecDepth 100000 in
theorem ex_e_glyph2 (N : Nat) (a b : Int32) (h1 : ex_lt0 a = false) (h2 : ex_ge a 0 = true) : ex_Both (N + 60) 35 70 [.ref 148, .int a, .int b] [.ref 219, .int a, .int b] := by
  apply ex_Both_i (-1)
  refine ex_uF rfl rfl ?_
  refine ex_sF rfl ?_
  refine ex_sF rfl ?_
  refine ex_sF (ex_bT rfl (by decide +kernel)) ?_
  refine ex_sF rfl ?_
  exact ex_rF rfl
  refine ex_uF rfl rfl ?_
  refine ex_sF rfl ?_
  refine ex_sF (ex_bF' rfl h1) ?_
  refine ex_sF rfl ?_
  refine ex_sF rfl ?_
  refine ex_sF rfl ?_
  refine ex_sF (ex_bT2 rfl h2) ?_
  refine ex_sF rfl ?_
  exact ex_rF rfl
  · (try simp only [ex_set_len]); exact Nat.le_of_ble_eq_true rfl
  · (try simp only [ex_set_two]); exact Nat.le_of_ble_eq_true rfl
  · repeat rw [ex_set_nth (by decide +kernel)]
    exact rfl
theorem ex_e_glyph (N : Nat) (a b : Int32) : ex_Both (N + 60) 35 70 [.ref 148, .int a, .int b] [.ref 219, .int a, .int b] := by
  cases h1 : ex_lt0 a with
  | true => exact ex_e_glyph1 N a b h1
  | false => exact ex_e_glyph2 N a b h1 (ex_ge_t.mpr (Int32.not_lt.mp ((ex_bF ex_lt0_t).mp h1)))
set_option maxRecDepth 100000 in
theorem ex_e_insert (N : Nat) (a b c : Int32) : ex_Both (N + 60) 39 75 [.ref 148, .int a, .int b, .int c] [.ref 219, .int a, .int b, .int c] := by
  apply ex_Both_i (-1)
  refine ex_uF rfl rfl ?_
  refine ex_sF rfl ?_
  refine ex_sF rfl ?_
  refine ex_sF (ex_bT rfl (by decide +kernel)) ?_
  refine ex_sF rfl ?_
  exact ex_rF rfl
  refine ex_uF rfl rfl ?_
  refine ex_sF rfl ?_
  refine ex_sF rfl ?_
  refine ex_sF (ex_bT rfl (by decide +kernel)) ?_
  refine ex_sF rfl ?_
  exact ex_rF rfl
  · (try simp only [ex_set_len]); exact Nat.le_of_ble_eq_true rfl
  · (try simp only [ex_set_two]); exact Nat.le_of_ble_eq_true rfl
  · repeat rw [ex_set_nth (by decide +kernel)]
    exact rfl
set_option maxRecDepth 100000 in
theorem ex_e_delete (N : Nat) (a : Int32) : ex_Both (N + 60) 31 65 [.ref 148, .int a] [.ref 219, .int a] := by
  apply ex_Both_i (-1)
  refine ex_uF rfl rfl ?_
  refine ex_sF rfl ?_
  refine ex_sF rfl ?_
  refine ex_sF (ex_bT rfl (by decide +kernel)) ?_
  refine ex_sF rfl ?_
  exact ex_rF rfl
  refine ex_uF rfl rfl ?_
  refine ex_sF rfl ?_
  refine ex_sF rfl ?_
  apply ex_cFv
  exact rfl
  refine ex_uF rfl rfl ?_
  refine ex_sF rfl ?_
  refine ex_sF rfl ?_
  refine ex_sF (ex_bT rfl (by decide +kernel)) ?_
  refine ex_sF rfl ?_
  exact ex_rF rfl
  refine ex_sF (ex_bF' rfl (by decide +kernel)) ?_
  refine ex_sF rfl ?_
  exact ex_rF rfl
  · (try simp only [ex_set_len]); exact Nat.le_of_ble_eq_true rfl
  · (try simp only [ex_set_two]); exact Nat.le_of_ble_eq_true rfl
  · repeat rw [ex_set_nth (by decide +kernel)]
    exact rfl
set_option maxRecDepth 100000 in
theorem ex_e_move (N : Nat) (a b : Int32) : ex_Both (N + 60) 45 82 [.ref 148, .int a, .int b] [.ref 219, .int a, .int b] := by
  apply ex_Both_i (-1)
  refine ex_uF rfl rfl ?_
  refine ex_sF rfl ?_
  refine ex_sF rfl ?_
  refine ex_sF (ex_bT rfl (by decide +kernel)) ?_
  refine ex_sF rfl ?_
  exact ex_rF rfl
  refine ex_uF rfl rfl ?_
  refine ex_sF rfl ?_
  refine ex_sF rfl ?_
  apply ex_cFv
  exact rfl
  refine ex_uF rfl rfl ?_
  refine ex_sF rfl ?_
  refine ex_sF rfl ?_
  refine ex_sF (ex_bT rfl (by decide +kernel)) ?_
  refine ex_sF rfl ?_
  exact ex_rF rfl
  refine ex_sF (ex_bT rfl (by decide +kernel)) ?_
  refine ex_sF rfl ?_
  exact ex_rF rfl
  · (try simp only [ex_set_len]); exact Nat.le_of_ble_eq_true rfl
  · (try simp only [ex_set_two]); exact Nat.le_of_ble_eq_true rfl
  · repeat rw [ex_set_nth (by decide +kernel)]
    exact rfl
set_option maxRecDepth 100000 in
theorem ex_e_turn (N : Nat) (a b : Int32) : ex_Both (N + 60) 55 93 [.ref 148, .int a, .int b] [.ref 219, .int a, .int b] := by
  apply ex_Both_i 0
  refine ex_uF rfl rfl ?_
  refine ex_sF rfl ?_
  refine ex_sF rfl ?_
  refine ex_sF (ex_bT rfl (by decide +kernel)) ?_
  refine ex_sF rfl ?_
  exact ex_rF rfl
  refine ex_uF rfl rfl ?_
  refine ex_sF rfl ?_
  refine ex_sF rfl ?_
  apply ex_cFv
  exact rfl
  refine ex_uF rfl rfl ?_
  refine ex_sF rfl ?_
  refine ex_sF rfl ?_
  refine ex_sF (ex_bT rfl (by decide +kernel)) ?_
  refine ex_sF rfl ?_
  exact ex_rF rfl
  refine ex_sF (ex_bT rfl (by decide +kernel)) ?_
  refine ex_sF rfl ?_
  exact ex_rF rfl
  · (try simp only [ex_set_len]); exact Nat.le_of_ble_eq_true rfl
  · (try simp only [ex_set_two]); exact Nat.le_of_ble_eq_true rfl
  · repeat rw [ex_set_nth (by decide +kernel)]
    exact rfl
set_option maxRecDepth 100000 in
theorem ex_e_contents (N : Nat) (a : Int32) : ex_Both (N + 60) 27 61 [.ref 148, .int a] [.ref 219, .int a] := by
  apply ex_Both_i (-1)
  refine ex_uF rfl rfl ?_
  refine ex_sF rfl ?_
  refine ex_sF rfl ?_
  refine ex_sF rfl ?_
  refine ex_sF rfl ?_
  refine ex_sF rfl ?_
  refine ex_sF rfl ?_
  refine ex_sF rfl ?_
  refine ex_sF rfl ?_
  refine ex_sF (ex_bT rfl (by decide +kernel)) ?_
  refine ex_sF rfl ?_
  exact ex_rF rfl
  refine ex_uF rfl rfl ?_
  refine ex_sF rfl ?_
  refine ex_sF rfl ?_
  refine ex_sF rfl ?_
  refine ex_sF rfl ?_
  refine ex_sF rfl ?_
  refine ex_sF rfl ?_
  refine ex_sF rfl ?_
  refine ex_sF rfl ?_
  apply ex_cFv
  exact rfl
  refine ex_uF rfl rfl ?_
  refine ex_sF rfl ?_
  refine ex_sF rfl ?_
  refine ex_sF (ex_bT rfl (by decide +kernel)) ?_
  refine ex_sF rfl ?_
  exact ex_rF rfl
  refine ex_sF (ex_bT rfl (by decide +kernel)) ?_
  refine ex_sF rfl ?_
  exact ex_rF rfl
  · (try simp only [ex_set_len]); exact Nat.le_of_ble_eq_true rfl
  · (try simp only [ex_set_two]); exact Nat.le_of_ble_eq_true rfl
  · repeat rw [ex_set_nth (by decide +kernel)]
    exact rfl
set_option maxRecDepth 100000 in
theorem ex_e_info (N : Nat) (a : Int32) : ex_Both (N + 60) 38 74 [.ref 148, .int a] [.ref 219, .int a] := by
  apply ex_Both_i (-1)
  refine ex_uF rfl rfl ?_
  refine ex_sF rfl ?_
  refine ex_sF rfl ?_
  refine ex_sF rfl ?_
  refine ex_sF rfl ?_
  refine ex_sF rfl ?_
  refine ex_sF rfl ?_
  refine ex_sF rfl ?_
  refine ex_sF rfl ?_
  refine ex_sF (ex_bT rfl (by decide +kernel)) ?_
  refine ex_sF rfl ?_
  exact ex_rF rfl
  refine ex_uF rfl rfl ?_
  refine ex_sF rfl ?_
  refine ex_sF rfl ?_
  refine ex_sF rfl ?_
  refine ex_sF rfl ?_
  refine ex_sF rfl ?_
  refine ex_sF rfl ?_
  refine ex_sF rfl ?_
  refine ex_sF rfl ?_
  refine ex_sF (ex_bT rfl (by decide +kernel)) ?_
  refine ex_sF rfl ?_
  exact ex_rF rfl
  · (try simp only [ex_set_len]); exact Nat.le_of_ble_eq_true rfl
  · (try simp only [ex_set_two]); exact Nat.le_of_ble_eq_true rfl
  · repeat rw [ex_set_nth (by decide +kernel)]
    exact rfl
theorem ex_e_whole : ex_Both 1000000 57 95 [.ref 148] [.ref 219] := ex_both_s (by decide +kernel)
theorem ex_e_more : ex_Both 1000000 44 81 [.ref 148] [.ref 219] := ex_both_s (by decide +kernel)
theorem ex_e_outs : ex_Both 1000000 48 85 [.ref 148] [.ref 219] := ex_both_s (by decide +kernel)
set_option maxRecDepth 100000 in
theorem ex_e_out1 (N : Nat) (a : Int32) (h1 : ex_lt0 a = true) : ex_Both (N + 60) 47 84 [.ref 148, .int a] [.ref 219, .int a] := by
  apply ex_Both_i (-1)
  refine ex_uF rfl rfl ?_
  refine ex_sF rfl ?_
  refine ex_sF rfl ?_
  refine ex_sF rfl ?_
  apply ex_cFv
  exact rfl
  refine ex_uF rfl rfl ?_
  refine ex_sF rfl ?_
  refine ex_sF (ex_bT rfl h1) ?_
  refine ex_sF rfl ?_
  exact ex_rF rfl
  exact ex_rF rfl
  refine ex_uF rfl rfl ?_
  refine ex_sF rfl ?_
  refine ex_sF (ex_bT rfl h1) ?_
  refine ex_sF rfl ?_
  exact ex_rF rfl
  · (try simp only [ex_set_len]); exact Nat.le_of_ble_eq_true rfl
  · (try simp only [ex_set_two]); exact Nat.le_of_ble_eq_true rfl
  · repeat rw [ex_set_nth (by decide +kernel)]
    exact rfl
set_option maxRecDepth 100000 in
theorem ex_e_out2 (N : Nat) (a : Int32) (h1 : ex_lt0 a = false) (h2 : ex_ge a 0 = true) : ex_Both (N + 60) 47 84 [.ref 148, .int a] [.ref 219, .int a] := by
  apply ex_Both_i (-1)
  refine ex_uF rfl rfl ?_
  refine ex_sF rfl ?_
  refine ex_sF rfl ?_
  refine ex_sF rfl ?_
  apply ex_cFv
  exact rfl
  refine ex_uF rfl rfl ?_
  refine ex_sF rfl ?_
  refine ex_sF (ex_bF' rfl h1) ?_
  refine ex_sF rfl ?_
  refine ex_sF rfl ?_
  refine ex_sF rfl ?_
  refine ex_sF (ex_bT2 rfl h2) ?_
  refine ex_sF rfl ?_
  exact ex_rF rfl
  exact ex_rF rfl
  refine ex_uF rfl rfl ?_
  refine ex_sF rfl ?_
  refine ex_sF (ex_bF' rfl h1) ?_
  refine ex_sF rfl ?_
  refine ex_sF rfl ?_
  refine ex_sF rfl ?_
  refine ex_sF (ex_bT2 rfl h2) ?_
  refine ex_sF rfl ?_
  exact ex_rF rfl
  · (try simp only [ex_set_len]); exact Nat.le_of_ble_eq_true rfl
  · (try simp only [ex_set_two]); exact Nat.le_of_ble_eq_true rfl
  · repeat rw [ex_set_nth (by decide +kernel)]
    exact rfl
theorem ex_e_out (N : Nat) (a : Int32) : ex_Both (N + 60) 47 84 [.ref 148, .int a] [.ref 219, .int a] := by
  cases h1 : ex_lt0 a with
  | true => exact ex_e_out1 N a h1
  | false => exact ex_e_out2 N a h1 (ex_ge_t.mpr (Int32.not_lt.mp ((ex_bF ex_lt0_t).mp h1)))
theorem ex_e_sum : ex_Both 1000000 53 91 [.ref 148] [.ref 219] := ex_both_s (by decide +kernel)
theorem ex_e_take : ex_Both 1000000 54 92 [.ref 148] [.ref 219] := ex_both_s (by decide +kernel)
