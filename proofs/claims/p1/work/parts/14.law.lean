/-! ===== the law's own run ===== -/
noncomputable def ex_call (L : Nat) (xs : Nat → Int32) : Nat → List Value → ex_H → Option (Option Value × ex_H) := ex_run (ex_g L xs) ex_P0 1000000 20
/-- the law ends with 1, in its room -/
def ex_Ok (L : Nat) (xs : Nat → Int32) (n : Nat) (f : ex_F) : Prop := ∃ h' : ex_H, ex_loopF (ex_g L xs) (ex_call L xs) ex_klaw n f = some (some (.int 1), h') ∧ h'.1.length ≤ 1000 ∧ h'.2 ≤ 2000000
section EXL
variable {L n pc nx t : Nat} {xs : Nat → Int32} {lv : ex_V} {st r : List Value} {h : ex_H}
theorem ex_oS {f : ex_F} (h1 : ex_one1 (ex_g L xs) ex_klaw pc lv st h = some (.inl f)) (h2 : ex_Ok L xs n f) : ex_Ok L xs (n + 1) (pc, lv, st, h) := by
  obtain ⟨h', e, b⟩ := h2
  exact ⟨h', ex_sF h1 e, b⟩
theorem ex_oR (h1 : ex_one1 (ex_g L xs) ex_klaw pc lv st h = some (.inr (.inl (some (.int 1), h)))) (b1 : h.1.length ≤ 1000) (b2 : h.2 ≤ 2000000) : ex_Ok L xs (n + 1) (pc, lv, st, h) := ⟨h, ex_rF h1, b1, b2⟩
theorem ex_oN {k pc' : Nat} {as st' : List Value} {lv' : ex_V} {h' h'' : ex_H} (h1 : ex_one1 (ex_g L xs) ex_klaw pc lv st h = some (.inr (.inr (k, as, (pc', lv', st', h'))))) (h2 : ex_call L xs k as h' = some (none, h'')) (h3 : ex_Ok L xs n (pc', lv', st', h'')) : ex_Ok L xs (n + 1) (pc, lv, st, h) := by
  obtain ⟨h0, e, b⟩ := h3
  exact ⟨h0, ex_cFn h1 h2 e, b⟩
theorem ex_oV {k pc' : Nat} {as st' : List Value} {lv' : ex_V} {h' h'' : ex_H} {v : Value} (h1 : ex_one1 (ex_g L xs) ex_klaw pc lv st h = some (.inr (.inr (k, as, (pc', lv', st', h'))))) (h2 : ex_call L xs k as h' = some (some v, h'')) (h3 : ex_Ok L xs n (pc', lv', v :: st', h'')) : ex_Ok L xs (n + 1) (pc, lv, st, h) := by
  obtain ⟨h0, e, b⟩ := h3
  exact ⟨h0, ex_cFv h1 h2 e, b⟩
/-- the class's call; behind it the reference's is known -/
theorem ex_oB {N k j pc' : Nat} {as bs st' : List Value} {lv' : ex_V} (h1 : ex_one1 (ex_g L xs) ex_klaw pc lv st ex_h0 = some (.inr (.inr (k, as, (pc', lv', st', ex_h0))))) (hB : ex_Both N k j as bs) (hN : N ≤ 1000000) (h3 : ∀ (v : Int32) (h h' : ex_H) (fs : List Value), ex_call L xs j bs h = some (some (.int v), h') → h'.1.length ≤ 1000 → h'.2 ≤ 2000000 → ex_nth h.1 71 = some (.inl (12, fs)) → ex_Ok L xs n (pc', lv', .int v :: st', h)) : ex_Ok L xs (n + 1) (pc, lv, st, ex_h0) := by
  obtain ⟨v, h, h', fs, e1, e2, b1, b2, e3⟩ := hB
  exact ex_oV h1 (ex_toRun L xs hN e1) (h3 v h h' fs (ex_toRun L xs hN e2) b1 b2 e3)
/-- an int of the script is read -/
theorem ex_oX {j : Int32} (h0 : ex_fl ex_klaw pc = some (fun g lv st h => ex_xld g 0 0 nx lv st h)) (hin : ex_in j L = true) : ex_one1 (ex_g L xs) ex_klaw pc lv (.int j :: .ref 147 :: r) h = some (.inl (nx, lv, .int (xs j.toNatClampNeg) :: r, h)) := by
  unfold ex_one1
  rw [h0]
  show (bif (Nat.beq 0 0 || Nat.beq 0 0) && ex_in j L then ex_go nx lv (.int (xs j.toNatClampNeg) :: r) h else none) = _
  rw [hin]
  rfl
/-- the reference is called -/
theorem ex_oM {k m : Nat} {fs : List Value} {A : List Value} (h0 : ex_fl ex_klaw pc = some (fun g lv st h => ex_callV g k m 12 nx lv st h)) (hg : ex_nth h.1 71 = some (.inl (12, fs))) (hw : Nat.ble (ex_w r) 8 = true) (hd : st.drop m = .ref 219 :: r) (ht : st.take m = A) (hl : Nat.beq A.length m = true) : ex_one1 (ex_g L xs) ex_klaw pc lv st h = some (.inr (.inr (k, .ref 219 :: A.reverse, (nx, lv, r, h)))) := by
  unfold ex_one1
  rw [h0]
  show ex_callV (ex_g L xs) k m 12 nx lv st h = _
  unfold ex_callV
  rw [hd, ht]
  have e : ex_get (ex_g L xs) h 219 = some (.inl (12, fs)) := hg
  simp only [e]
  rw [hw, hl]
  rfl
theorem ex_oI {x : Int32} {dd lo hi off : Int} {offs : Array Int} {g : ex_G} (c : Int) (h0 : ex_fl ex_klaw pc = some (fun _ lv st h => ex_tsw dd lo hi offs pc lv st h)) (hx : x.toInt = c) (hc : ¬ (c < lo ∨ hi < c)) (ho : offs[(c - lo).toNat]? = some off) (ht : (pc : Int) + off = (t : Int)) : ex_one1 g ex_klaw pc lv (.int x :: r) h = some (.inl (t, lv, r, h)) := by
  subst hx
  exact ex_bI h0 hc ho ht
theorem ex_oA {tys : List FieldType} {ci i : Nat} (h0 : ex_fl ex_klaw pc = some (fun g lv st h => ex_new g tys ci nx lv st h)) (hi : 148 + h.1.length = i) : ex_one1 (ex_g L xs) ex_klaw pc lv st h = some (.inl (nx, lv, .ref i :: st, (h.1 ++ [.inl (ci, tys.map defaultValue)], h.2 + tys.length))) := by
  unfold ex_one1
  rw [h0]
  subst hi
  rfl
theorem ex_oT {g : ex_G} (h0 : ex_fl ex_klaw pc = some (fun _ lv st h => ex_ret (some .boolean) st h)) : ex_one1 g ex_klaw pc lv [.int 1] h = some (.inr (.inl (some (.int 1), h))) := by
  unfold ex_one1
  rw [h0]
  have e : ((1 : Int32) == 0 || (1 : Int32) == 1) = true := by decide +kernel
  show (bif (1 : Int32) == 0 || (1 : Int32) == 1 then (some (.inr (.inl (some (.int 1), h))) : Option ex_O) else none) = _
  rw [e]
  rfl
end EXL
theorem ex_and31 (a b : Int32) (hb : ex_v b = 31) : 0 ≤ (a &&& b).toInt ∧ (a &&& b).toInt ≤ 31 := by
  have h1 := ex_u_int (a &&& b)
  have h2 : ex_v (a &&& b) = ex_v a &&& ex_v b := by
    show (a.toUInt32.toBitVec &&& b.toUInt32.toBitVec).toNat = _
    rw [BitVec.toNat_and]
    rfl
  have h3 : ex_v (a &&& b) ≤ 31 := by
    rw [h2, hb]
    exact Nat.and_le_right
  have h4 : ex_u (a &&& b) = (ex_v (a &&& b) + 2147483648) % 4294967296 := rfl
  omega
theorem ex_eq_r (v : Int32) : ex_eq v v = true := ex_eq_t.mpr rfl
theorem ex_lenA : 148 + ex_hA.length = 219 := rfl
set_option maxRecDepth 100000 in
/-- both objects are made -/
theorem ex_begin {L n : Nat} {xs : Nat → Int32} (k : ex_Ok L xs n (18, [(3, .int 0), (2, .ref 219), (1, .ref 148), (0, .ref 147)], [], ex_h0)) : ex_Ok L xs (n + 10) (0, [(0, .ref 147)], [], ([], 0)) := by
  refine ex_oS (f := (3, [(0, .ref 147)], [.ref 148], ([.inl (11, (ex_ft 11).map defaultValue)], 19))) rfl ?_
  refine ex_oS (f := (4, [(0, .ref 147)], [.ref 148, .ref 148], ([.inl (11, (ex_ft 11).map defaultValue)], 19))) rfl ?_
  refine ex_oN (k := 26) (pc' := 7) (lv' := [(0, .ref 147)]) (st' := [.ref 148]) rfl (ex_toRun L xs (Nat.le_refl _) ex_ctorA) ?_
  refine ex_oS (f := (8, [(1, .ref 148), (0, .ref 147)], [], (ex_hA, 368383))) rfl ?_
  refine ex_oS (f := (11, [(1, .ref 148), (0, .ref 147)], [.ref 219], (ex_hA ++ [.inl (12, (ex_ft 12).map defaultValue)], 368383 + 121))) (ex_oA (h := (ex_hA, 368383)) rfl ex_lenA) ?_
  refine ex_oS (f := (12, [(1, .ref 148), (0, .ref 147)], [.ref 219, .ref 219], (ex_hA ++ [.inl (12, (ex_ft 12).map defaultValue)], 368383 + 121))) rfl ?_
  refine ex_oN (k := 58) (pc' := 15) (lv' := [(1, .ref 148), (0, .ref 147)]) (st' := [.ref 219]) rfl (ex_toRun L xs (Nat.le_refl _) ex_ctorB) ?_
  refine ex_oS (f := (16, [(2, .ref 219), (1, .ref 148), (0, .ref 147)], [], ex_h0)) rfl ?_
  refine ex_oS (f := (17, [(2, .ref 219), (1, .ref 148), (0, .ref 147)], [.int 0], ex_h0)) rfl ?_
  refine ex_oS (f := (18, [(3, .int 0), (2, .ref 219), (1, .ref 148), (0, .ref 147)], [], ex_h0)) rfl ?_
  exact k

/-- behind the last call -/
theorem ex_endA {n : Nat} {xs : Nat → Int32} {h : ex_H} (b1 : h.1.length ≤ 1000) (b2 : h.2 ≤ 2000000) : ex_Ok 6 xs (n + 10) (877, [(3, .int 0), (2, .ref 219), (1, .ref 148), (0, .ref 147)], [], h) := by
  refine ex_oS rfl ?_
  refine ex_oS rfl ?_
  refine ex_oS rfl ?_
  refine ex_oS rfl ?_
  refine ex_oS rfl ?_
  refine ex_oS rfl ?_
  refine ex_oS rfl ?_
  refine ex_oS (ex_bT2 rfl (by decide +kernel)) ?_
  refine ex_oS rfl ?_
  exact ex_oR (ex_oT rfl) b1 b2
/-- no call that the law makes has this number -/
theorem ex_endB {n : Nat} {xs : Nat → Int32} {h : ex_H} (b1 : h.1.length ≤ 1000) (b2 : h.2 ≤ 2000000) : ex_Ok 6 xs (n + 10) (877, [(3, .int 0), (2, .ref 219), (1, .ref 148), (0, .ref 147)], [], h) := ex_endA b1 b2
set_option maxRecDepth 100000 in
theorem ex_l0 {n : Nat} (xs : Nat → Int32) : ex_Ok 6 xs (n + 100) (164, [(3, .int 0), (2, .ref 219), (1, .ref 148), (0, .ref 147)], [], ex_h0) := by
  refine ex_oS rfl ?_
  refine ex_oS rfl ?_
  refine ex_oS rfl ?_
  refine ex_oS rfl ?_
  refine ex_oS rfl ?_
  refine ex_oS (ex_oX rfl (by decide +kernel)) ?_
  refine ex_oS rfl ?_
  refine ex_oS rfl ?_
  refine ex_oS rfl ?_
  refine ex_oS rfl ?_
  refine ex_oS (ex_oX rfl (by decide +kernel)) ?_
  refine ex_oS rfl ?_
  refine ex_oS rfl ?_
  refine ex_oS rfl ?_
  refine ex_oS rfl ?_
  refine ex_oS (ex_oX rfl (by decide +kernel)) ?_
  refine ex_oS rfl ?_
  refine ex_oS rfl ?_
  refine ex_oS rfl ?_
  refine ex_oS rfl ?_
  refine ex_oS (ex_oX rfl (by decide +kernel)) ?_
  refine ex_oS rfl ?_
  refine ex_oS rfl ?_
  refine ex_oS rfl ?_
  refine ex_oS rfl ?_
  refine ex_oS (ex_oX rfl (by decide +kernel)) ?_
  refine ex_oB rfl (ex_e_feed 999700 _ _ _ _ _) (by decide) ?_
  intro v h h' fs e2 b1 b2 e3
  refine ex_oS rfl ?_
  refine ex_oS rfl ?_
  refine ex_oS rfl ?_
  refine ex_oS rfl ?_
  refine ex_oS rfl ?_
  refine ex_oS (ex_oX rfl (by decide +kernel)) ?_
  refine ex_oS rfl ?_
  refine ex_oS rfl ?_
  refine ex_oS rfl ?_
  refine ex_oS rfl ?_
  refine ex_oS (ex_oX rfl (by decide +kernel)) ?_
  refine ex_oS rfl ?_
  refine ex_oS rfl ?_
  refine ex_oS rfl ?_
  refine ex_oS rfl ?_
  refine ex_oS (ex_oX rfl (by decide +kernel)) ?_
  refine ex_oS rfl ?_
  refine ex_oS rfl ?_
  refine ex_oS rfl ?_
  refine ex_oS rfl ?_
  refine ex_oS (ex_oX rfl (by decide +kernel)) ?_
  refine ex_oS rfl ?_
  refine ex_oS rfl ?_
  refine ex_oS rfl ?_
  refine ex_oS rfl ?_
  refine ex_oS (ex_oX rfl (by decide +kernel)) ?_
  refine ex_oV (ex_oM rfl e3 rfl rfl rfl rfl) e2 ?_
  refine ex_oS (ex_bT2 rfl (ex_eq_r v)) ?_
  exact ex_endA b1 b2
set_option maxRecDepth 100000 in
theorem ex_l1 {n : Nat} (xs : Nat → Int32) : ex_Ok 6 xs (n + 100) (227, [(3, .int 0), (2, .ref 219), (1, .ref 148), (0, .ref 147)], [], ex_h0) := by
  refine ex_oS rfl ?_
  refine ex_oS rfl ?_
  refine ex_oS rfl ?_
  refine ex_oS rfl ?_
  refine ex_oS rfl ?_
  refine ex_oS (ex_oX rfl (by decide +kernel)) ?_
  refine ex_oB rfl (ex_e_cut 999940 _) (by decide) ?_
  intro v h h' fs e2 b1 b2 e3
  refine ex_oS rfl ?_
  refine ex_oS rfl ?_
  refine ex_oS rfl ?_
  refine ex_oS rfl ?_
  refine ex_oS rfl ?_
  refine ex_oS (ex_oX rfl (by decide +kernel)) ?_
  refine ex_oV (ex_oM rfl e3 rfl rfl rfl rfl) e2 ?_
  refine ex_oS (ex_bT2 rfl (ex_eq_r v)) ?_
  exact ex_endA b1 b2
set_option maxRecDepth 100000 in
theorem ex_l2 {n : Nat} (xs : Nat → Int32) : ex_Ok 6 xs (n + 100) (250, [(3, .int 0), (2, .ref 219), (1, .ref 148), (0, .ref 147)], [], ex_h0) := by
  refine ex_oS rfl ?_
  refine ex_oB rfl (ex_e_load) (by decide) ?_
  intro v h h' fs e2 b1 b2 e3
  refine ex_oS rfl ?_
  refine ex_oV (ex_oM rfl e3 rfl rfl rfl rfl) e2 ?_
  refine ex_oS (ex_bT2 rfl (ex_eq_r v)) ?_
  exact ex_endA b1 b2
set_option maxRecDepth 100000 in
theorem ex_l3 {n : Nat} (xs : Nat → Int32) : ex_Ok 6 xs (n + 100) (263, [(3, .int 0), (2, .ref 219), (1, .ref 148), (0, .ref 147)], [], ex_h0) := by
  refine ex_oS rfl ?_
  refine ex_oS rfl ?_
  refine ex_oS rfl ?_
  refine ex_oS rfl ?_
  refine ex_oS rfl ?_
  refine ex_oS (ex_oX rfl (by decide +kernel)) ?_
  refine ex_oB rfl (ex_e_fault 999940 _) (by decide) ?_
  intro v h h' fs e2 b1 b2 e3
  refine ex_oS rfl ?_
  refine ex_oS rfl ?_
  refine ex_oS rfl ?_
  refine ex_oS rfl ?_
  refine ex_oS rfl ?_
  refine ex_oS (ex_oX rfl (by decide +kernel)) ?_
  refine ex_oV (ex_oM rfl e3 rfl rfl rfl rfl) e2 ?_
  refine ex_oS (ex_bT2 rfl (ex_eq_r v)) ?_
  exact ex_endA b1 b2
set_option maxRecDepth 100000 in
theorem ex_l4 {n : Nat} (xs : Nat → Int32) : ex_Ok 6 xs (n + 100) (286, [(3, .int 0), (2, .ref 219), (1, .ref 148), (0, .ref 147)], [], ex_h0) := by
  refine ex_oS rfl ?_
  refine ex_oB rfl (ex_e_objects) (by decide) ?_
  intro v h h' fs e2 b1 b2 e3
  refine ex_oS rfl ?_
  refine ex_oV (ex_oM rfl e3 rfl rfl rfl rfl) e2 ?_
  refine ex_oS (ex_bT2 rfl (ex_eq_r v)) ?_
  exact ex_endA b1 b2
set_option maxRecDepth 100000 in
theorem ex_l5 {n : Nat} (xs : Nat → Int32) : ex_Ok 6 xs (n + 100) (299, [(3, .int 0), (2, .ref 219), (1, .ref 148), (0, .ref 147)], [], ex_h0) := by
  refine ex_oS rfl ?_
  refine ex_oS rfl ?_
  refine ex_oS rfl ?_
  refine ex_oS rfl ?_
  refine ex_oS rfl ?_
  refine ex_oS (ex_oX rfl (by decide +kernel)) ?_
  refine ex_oB rfl (ex_e_go 999940 _) (by decide) ?_
  intro v h h' fs e2 b1 b2 e3
  refine ex_oS rfl ?_
  refine ex_oS rfl ?_
  refine ex_oS rfl ?_
  refine ex_oS rfl ?_
  refine ex_oS rfl ?_
  refine ex_oS (ex_oX rfl (by decide +kernel)) ?_
  refine ex_oV (ex_oM rfl e3 rfl rfl rfl rfl) e2 ?_
  refine ex_oS (ex_bT2 rfl (ex_eq_r v)) ?_
  exact ex_endA b1 b2
set_option maxRecDepth 100000 in
theorem ex_l6 {n : Nat} (xs : Nat → Int32) : ex_Ok 6 xs (n + 100) (322, [(3, .int 0), (2, .ref 219), (1, .ref 148), (0, .ref 147)], [], ex_h0) := by
  refine ex_oS rfl ?_
  refine ex_oS rfl ?_
  refine ex_oS rfl ?_
  refine ex_oS rfl ?_
  refine ex_oS rfl ?_
  refine ex_oS (ex_oX rfl (by decide +kernel)) ?_
  refine ex_oB rfl (ex_e_down 999940 _) (by decide) ?_
  intro v h h' fs e2 b1 b2 e3
  refine ex_oS rfl ?_
  refine ex_oS rfl ?_
  refine ex_oS rfl ?_
  refine ex_oS rfl ?_
  refine ex_oS rfl ?_
  refine ex_oS (ex_oX rfl (by decide +kernel)) ?_
  refine ex_oV (ex_oM rfl e3 rfl rfl rfl rfl) e2 ?_
  refine ex_oS (ex_bT2 rfl (ex_eq_r v)) ?_
  exact ex_endA b1 b2
set_option maxRecDepth 100000 in
theorem ex_l7 {n : Nat} (xs : Nat → Int32) : ex_Ok 6 xs (n + 100) (345, [(3, .int 0), (2, .ref 219), (1, .ref 148), (0, .ref 147)], [], ex_h0) := by
  refine ex_oS rfl ?_
  refine ex_oB rfl (ex_e_up) (by decide) ?_
  intro v h h' fs e2 b1 b2 e3
  refine ex_oS rfl ?_
  refine ex_oV (ex_oM rfl e3 rfl rfl rfl rfl) e2 ?_
  refine ex_oS (ex_bT2 rfl (ex_eq_r v)) ?_
  exact ex_endA b1 b2
set_option maxRecDepth 100000 in
theorem ex_l8 {n : Nat} (xs : Nat → Int32) : ex_Ok 6 xs (n + 100) (358, [(3, .int 0), (2, .ref 219), (1, .ref 148), (0, .ref 147)], [], ex_h0) := by
  refine ex_oS rfl ?_
  refine ex_oS rfl ?_
  refine ex_oS rfl ?_
  refine ex_oS rfl ?_
  refine ex_oS rfl ?_
  refine ex_oS (ex_oX rfl (by decide +kernel)) ?_
  refine ex_oB rfl (ex_e_here 999940 _) (by decide) ?_
  intro v h h' fs e2 b1 b2 e3
  refine ex_oS rfl ?_
  refine ex_oS rfl ?_
  refine ex_oS rfl ?_
  refine ex_oS rfl ?_
  refine ex_oS rfl ?_
  refine ex_oS (ex_oX rfl (by decide +kernel)) ?_
  refine ex_oV (ex_oM rfl e3 rfl rfl rfl rfl) e2 ?_
  refine ex_oS (ex_bT2 rfl (ex_eq_r v)) ?_
  exact ex_endA b1 b2
set_option maxRecDepth 100000 in
theorem ex_l9 {n : Nat} (xs : Nat → Int32) : ex_Ok 6 xs (n + 100) (381, [(3, .int 0), (2, .ref 219), (1, .ref 148), (0, .ref 147)], [], ex_h0) := by
  cases hz : ex_eq0 (xs (ex_add 0 2).toNatClampNeg) with
  | true =>
    refine ex_oS rfl ?_
    refine ex_oS rfl ?_
    refine ex_oS rfl ?_
    refine ex_oS rfl ?_
    refine ex_oS rfl ?_
    refine ex_oS (ex_oX rfl (by decide +kernel)) ?_
    refine ex_oS rfl ?_
    refine ex_oS rfl ?_
    refine ex_oS rfl ?_
    refine ex_oS rfl ?_
    refine ex_oS (ex_oX rfl (by decide +kernel)) ?_
    refine ex_oS (ex_bT rfl hz) ?_
    refine ex_oS rfl ?_
    refine ex_oB rfl (ex_e_letter 999940 _ _) (by decide) ?_
    intro v h h' fs e2 b1 b2 e3
    refine ex_oS rfl ?_
    refine ex_oS rfl ?_
    refine ex_oS rfl ?_
    refine ex_oS rfl ?_
    refine ex_oS rfl ?_
    refine ex_oS (ex_oX rfl (by decide +kernel)) ?_
    refine ex_oS rfl ?_
    refine ex_oS rfl ?_
    refine ex_oS rfl ?_
    refine ex_oS rfl ?_
    refine ex_oS (ex_oX rfl (by decide +kernel)) ?_
    refine ex_oS (ex_bT rfl hz) ?_
    refine ex_oS rfl ?_
    refine ex_oV (ex_oM rfl e3 rfl rfl rfl rfl) e2 ?_
    refine ex_oS (ex_bT2 rfl (ex_eq_r v)) ?_
    exact ex_endA b1 b2
  | false =>
    refine ex_oS rfl ?_
    refine ex_oS rfl ?_
    refine ex_oS rfl ?_
    refine ex_oS rfl ?_
    refine ex_oS rfl ?_
    refine ex_oS (ex_oX rfl (by decide +kernel)) ?_
    refine ex_oS rfl ?_
    refine ex_oS rfl ?_
    refine ex_oS rfl ?_
    refine ex_oS rfl ?_
    refine ex_oS (ex_oX rfl (by decide +kernel)) ?_
    refine ex_oS (ex_bF' rfl hz) ?_
    refine ex_oS rfl ?_
    refine ex_oS rfl ?_
    refine ex_oB rfl (ex_e_letter 999940 _ _) (by decide) ?_
    intro v h h' fs e2 b1 b2 e3
    refine ex_oS rfl ?_
    refine ex_oS rfl ?_
    refine ex_oS rfl ?_
    refine ex_oS rfl ?_
    refine ex_oS rfl ?_
    refine ex_oS (ex_oX rfl (by decide +kernel)) ?_
    refine ex_oS rfl ?_
    refine ex_oS rfl ?_
    refine ex_oS rfl ?_
    refine ex_oS rfl ?_
    refine ex_oS (ex_oX rfl (by decide +kernel)) ?_
    refine ex_oS (ex_bF' rfl hz) ?_
    refine ex_oS rfl ?_
    refine ex_oS rfl ?_
    refine ex_oV (ex_oM rfl e3 rfl rfl rfl rfl) e2 ?_
    refine ex_oS (ex_bT2 rfl (ex_eq_r v)) ?_
    exact ex_endA b1 b2
set_option maxRecDepth 100000 in
theorem ex_l10 {n : Nat} (xs : Nat → Int32) : ex_Ok 6 xs (n + 100) (430, [(3, .int 0), (2, .ref 219), (1, .ref 148), (0, .ref 147)], [], ex_h0) := by
  refine ex_oS rfl ?_
  refine ex_oS rfl ?_
  refine ex_oS rfl ?_
  refine ex_oS rfl ?_
  refine ex_oS rfl ?_
  refine ex_oS (ex_oX rfl (by decide +kernel)) ?_
  refine ex_oB rfl (ex_e_size 999940 _) (by decide) ?_
  intro v h h' fs e2 b1 b2 e3
  refine ex_oS rfl ?_
  refine ex_oS rfl ?_
  refine ex_oS rfl ?_
  refine ex_oS rfl ?_
  refine ex_oS rfl ?_
  refine ex_oS (ex_oX rfl (by decide +kernel)) ?_
  refine ex_oV (ex_oM rfl e3 rfl rfl rfl rfl) e2 ?_
  refine ex_oS (ex_bT2 rfl (ex_eq_r v)) ?_
  exact ex_endA b1 b2
set_option maxRecDepth 100000 in
theorem ex_l11 {n : Nat} (xs : Nat → Int32) : ex_Ok 6 xs (n + 100) (453, [(3, .int 0), (2, .ref 219), (1, .ref 148), (0, .ref 147)], [], ex_h0) := by
  refine ex_oS rfl ?_
  refine ex_oS rfl ?_
  refine ex_oS rfl ?_
  refine ex_oS rfl ?_
  refine ex_oS rfl ?_
  refine ex_oS (ex_oX rfl (by decide +kernel)) ?_
  refine ex_oS rfl ?_
  refine ex_oS rfl ?_
  refine ex_oS rfl ?_
  refine ex_oS rfl ?_
  refine ex_oS (ex_oX rfl (by decide +kernel)) ?_
  refine ex_oB rfl (ex_e_data 999940 _ _) (by decide) ?_
  intro v h h' fs e2 b1 b2 e3
  refine ex_oS rfl ?_
  refine ex_oS rfl ?_
  refine ex_oS rfl ?_
  refine ex_oS rfl ?_
  refine ex_oS rfl ?_
  refine ex_oS (ex_oX rfl (by decide +kernel)) ?_
  refine ex_oS rfl ?_
  refine ex_oS rfl ?_
  refine ex_oS rfl ?_
  refine ex_oS rfl ?_
  refine ex_oS (ex_oX rfl (by decide +kernel)) ?_
  refine ex_oV (ex_oM rfl e3 rfl rfl rfl rfl) e2 ?_
  refine ex_oS (ex_bT2 rfl (ex_eq_r v)) ?_
  exact ex_endA b1 b2
set_option maxRecDepth 100000 in
theorem ex_l12 {n : Nat} (xs : Nat → Int32) : ex_Ok 6 xs (n + 100) (486, [(3, .int 0), (2, .ref 219), (1, .ref 148), (0, .ref 147)], [], ex_h0) := by
  refine ex_oS rfl ?_
  refine ex_oS rfl ?_
  refine ex_oS rfl ?_
  refine ex_oS rfl ?_
  refine ex_oS rfl ?_
  refine ex_oS (ex_oX rfl (by decide +kernel)) ?_
  refine ex_oB rfl (ex_e_count 999940 _) (by decide) ?_
  intro v h h' fs e2 b1 b2 e3
  refine ex_oS rfl ?_
  refine ex_oS rfl ?_
  refine ex_oS rfl ?_
  refine ex_oS rfl ?_
  refine ex_oS rfl ?_
  refine ex_oS (ex_oX rfl (by decide +kernel)) ?_
  refine ex_oV (ex_oM rfl e3 rfl rfl rfl rfl) e2 ?_
  refine ex_oS (ex_bT2 rfl (ex_eq_r v)) ?_
  exact ex_endA b1 b2
set_option maxRecDepth 100000 in
theorem ex_l13 {n : Nat} (xs : Nat → Int32) : ex_Ok 6 xs (n + 100) (509, [(3, .int 0), (2, .ref 219), (1, .ref 148), (0, .ref 147)], [], ex_h0) := by
  refine ex_oS rfl ?_
  refine ex_oB rfl (ex_e_pages) (by decide) ?_
  intro v h h' fs e2 b1 b2 e3
  refine ex_oS rfl ?_
  refine ex_oV (ex_oM rfl e3 rfl rfl rfl rfl) e2 ?_
  refine ex_oS (ex_bT2 rfl (ex_eq_r v)) ?_
  exact ex_endA b1 b2
set_option maxRecDepth 100000 in
theorem ex_l14 {n : Nat} (xs : Nat → Int32) : ex_Ok 6 xs (n + 100) (522, [(3, .int 0), (2, .ref 219), (1, .ref 148), (0, .ref 147)], [], ex_h0) := by
  refine ex_oS rfl ?_
  refine ex_oS rfl ?_
  refine ex_oS rfl ?_
  refine ex_oS rfl ?_
  refine ex_oS rfl ?_
  refine ex_oS (ex_oX rfl (by decide +kernel)) ?_
  refine ex_oS rfl ?_
  refine ex_oS rfl ?_
  refine ex_oS rfl ?_
  refine ex_oS rfl ?_
  refine ex_oS (ex_oX rfl (by decide +kernel)) ?_
  refine ex_oB rfl (ex_e_page 999940 _ _) (by decide) ?_
  intro v h h' fs e2 b1 b2 e3
  refine ex_oS rfl ?_
  refine ex_oS rfl ?_
  refine ex_oS rfl ?_
  refine ex_oS rfl ?_
  refine ex_oS rfl ?_
  refine ex_oS (ex_oX rfl (by decide +kernel)) ?_
  refine ex_oS rfl ?_
  refine ex_oS rfl ?_
  refine ex_oS rfl ?_
  refine ex_oS rfl ?_
  refine ex_oS (ex_oX rfl (by decide +kernel)) ?_
  refine ex_oV (ex_oM rfl e3 rfl rfl rfl rfl) e2 ?_
  refine ex_oS (ex_bT2 rfl (ex_eq_r v)) ?_
  exact ex_endA b1 b2
set_option maxRecDepth 100000 in
theorem ex_l15 {n : Nat} (xs : Nat → Int32) : ex_Ok 6 xs (n + 100) (555, [(3, .int 0), (2, .ref 219), (1, .ref 148), (0, .ref 147)], [], ex_h0) := by
  refine ex_oS rfl ?_
  refine ex_oS rfl ?_
  refine ex_oS rfl ?_
  refine ex_oS rfl ?_
  refine ex_oS rfl ?_
  refine ex_oS (ex_oX rfl (by decide +kernel)) ?_
  refine ex_oB rfl (ex_e_show 999940 _) (by decide) ?_
  intro v h h' fs e2 b1 b2 e3
  refine ex_oS rfl ?_
  refine ex_oS rfl ?_
  refine ex_oS rfl ?_
  refine ex_oS rfl ?_
  refine ex_oS rfl ?_
  refine ex_oS (ex_oX rfl (by decide +kernel)) ?_
  refine ex_oV (ex_oM rfl e3 rfl rfl rfl rfl) e2 ?_
  refine ex_oS (ex_bT2 rfl (ex_eq_r v)) ?_
  exact ex_endA b1 b2
set_option maxRecDepth 100000 in
theorem ex_l16 {n : Nat} (xs : Nat → Int32) : ex_Ok 6 xs (n + 100) (578, [(3, .int 0), (2, .ref 219), (1, .ref 148), (0, .ref 147)], [], ex_h0) := by
  refine ex_oS rfl ?_
  refine ex_oS rfl ?_
  refine ex_oS rfl ?_
  refine ex_oS rfl ?_
  refine ex_oS rfl ?_
  refine ex_oS (ex_oX rfl (by decide +kernel)) ?_
  refine ex_oS rfl ?_
  refine ex_oS rfl ?_
  refine ex_oS rfl ?_
  refine ex_oS rfl ?_
  refine ex_oS (ex_oX rfl (by decide +kernel)) ?_
  refine ex_oB rfl (ex_e_glyph 999940 _ _) (by decide) ?_
  intro v h h' fs e2 b1 b2 e3
  refine ex_oS rfl ?_
  refine ex_oS rfl ?_
  refine ex_oS rfl ?_
  refine ex_oS rfl ?_
  refine ex_oS rfl ?_
  refine ex_oS (ex_oX rfl (by decide +kernel)) ?_
  refine ex_oS rfl ?_
  refine ex_oS rfl ?_
  refine ex_oS rfl ?_
  refine ex_oS rfl ?_
  refine ex_oS (ex_oX rfl (by decide +kernel)) ?_
  refine ex_oV (ex_oM rfl e3 rfl rfl rfl rfl) e2 ?_
  refine ex_oS (ex_bT2 rfl (ex_eq_r v)) ?_
  exact ex_endA b1 b2
set_option maxRecDepth 100000 in
theorem ex_l17 {n : Nat} (xs : Nat → Int32) : ex_Ok 6 xs (n + 100) (611, [(3, .int 0), (2, .ref 219), (1, .ref 148), (0, .ref 147)], [], ex_h0) := by
  refine ex_oS rfl ?_
  refine ex_oS rfl ?_
  refine ex_oS rfl ?_
  refine ex_oS rfl ?_
  refine ex_oS rfl ?_
  refine ex_oS (ex_oX rfl (by decide +kernel)) ?_
  refine ex_oS rfl ?_
  refine ex_oS rfl ?_
  refine ex_oS rfl ?_
  refine ex_oS rfl ?_
  refine ex_oS (ex_oX rfl (by decide +kernel)) ?_
  refine ex_oS rfl ?_
  refine ex_oS rfl ?_
  refine ex_oS rfl ?_
  refine ex_oS rfl ?_
  refine ex_oS (ex_oX rfl (by decide +kernel)) ?_
  refine ex_oB rfl (ex_e_insert 999940 _ _ _) (by decide) ?_
  intro v h h' fs e2 b1 b2 e3
  refine ex_oS rfl ?_
  refine ex_oS rfl ?_
  refine ex_oS rfl ?_
  refine ex_oS rfl ?_
  refine ex_oS rfl ?_
  refine ex_oS (ex_oX rfl (by decide +kernel)) ?_
  refine ex_oS rfl ?_
  refine ex_oS rfl ?_
  refine ex_oS rfl ?_
  refine ex_oS rfl ?_
  refine ex_oS (ex_oX rfl (by decide +kernel)) ?_
  refine ex_oS rfl ?_
  refine ex_oS rfl ?_
  refine ex_oS rfl ?_
  refine ex_oS rfl ?_
  refine ex_oS (ex_oX rfl (by decide +kernel)) ?_
  refine ex_oV (ex_oM rfl e3 rfl rfl rfl rfl) e2 ?_
  refine ex_oS (ex_bT2 rfl (ex_eq_r v)) ?_
  exact ex_endA b1 b2
set_option maxRecDepth 100000 in
theorem ex_l18 {n : Nat} (xs : Nat → Int32) : ex_Ok 6 xs (n + 100) (654, [(3, .int 0), (2, .ref 219), (1, .ref 148), (0, .ref 147)], [], ex_h0) := by
  refine ex_oS rfl ?_
  refine ex_oS rfl ?_
  refine ex_oS rfl ?_
  refine ex_oS rfl ?_
  refine ex_oS rfl ?_
  refine ex_oS (ex_oX rfl (by decide +kernel)) ?_
  refine ex_oB rfl (ex_e_delete 999940 _) (by decide) ?_
  intro v h h' fs e2 b1 b2 e3
  refine ex_oS rfl ?_
  refine ex_oS rfl ?_
  refine ex_oS rfl ?_
  refine ex_oS rfl ?_
  refine ex_oS rfl ?_
  refine ex_oS (ex_oX rfl (by decide +kernel)) ?_
  refine ex_oV (ex_oM rfl e3 rfl rfl rfl rfl) e2 ?_
  refine ex_oS (ex_bT2 rfl (ex_eq_r v)) ?_
  exact ex_endA b1 b2
set_option maxRecDepth 100000 in
theorem ex_l19 {n : Nat} (xs : Nat → Int32) : ex_Ok 6 xs (n + 100) (677, [(3, .int 0), (2, .ref 219), (1, .ref 148), (0, .ref 147)], [], ex_h0) := by
  refine ex_oS rfl ?_
  refine ex_oS rfl ?_
  refine ex_oS rfl ?_
  refine ex_oS rfl ?_
  refine ex_oS rfl ?_
  refine ex_oS (ex_oX rfl (by decide +kernel)) ?_
  refine ex_oS rfl ?_
  refine ex_oS rfl ?_
  refine ex_oS rfl ?_
  refine ex_oS rfl ?_
  refine ex_oS (ex_oX rfl (by decide +kernel)) ?_
  refine ex_oB rfl (ex_e_move 999940 _ _) (by decide) ?_
  intro v h h' fs e2 b1 b2 e3
  refine ex_oS rfl ?_
  refine ex_oS rfl ?_
  refine ex_oS rfl ?_
  refine ex_oS rfl ?_
  refine ex_oS rfl ?_
  refine ex_oS (ex_oX rfl (by decide +kernel)) ?_
  refine ex_oS rfl ?_
  refine ex_oS rfl ?_
  refine ex_oS rfl ?_
  refine ex_oS rfl ?_
  refine ex_oS (ex_oX rfl (by decide +kernel)) ?_
  refine ex_oV (ex_oM rfl e3 rfl rfl rfl rfl) e2 ?_
  refine ex_oS (ex_bT2 rfl (ex_eq_r v)) ?_
  exact ex_endA b1 b2
set_option maxRecDepth 100000 in
theorem ex_l20 {n : Nat} (xs : Nat → Int32) : ex_Ok 6 xs (n + 100) (710, [(3, .int 0), (2, .ref 219), (1, .ref 148), (0, .ref 147)], [], ex_h0) := by
  refine ex_oS rfl ?_
  refine ex_oS rfl ?_
  refine ex_oS rfl ?_
  refine ex_oS rfl ?_
  refine ex_oS rfl ?_
  refine ex_oS (ex_oX rfl (by decide +kernel)) ?_
  refine ex_oS rfl ?_
  refine ex_oS rfl ?_
  refine ex_oS rfl ?_
  refine ex_oS rfl ?_
  refine ex_oS (ex_oX rfl (by decide +kernel)) ?_
  refine ex_oB rfl (ex_e_turn 999940 _ _) (by decide) ?_
  intro v h h' fs e2 b1 b2 e3
  refine ex_oS rfl ?_
  refine ex_oS rfl ?_
  refine ex_oS rfl ?_
  refine ex_oS rfl ?_
  refine ex_oS rfl ?_
  refine ex_oS (ex_oX rfl (by decide +kernel)) ?_
  refine ex_oS rfl ?_
  refine ex_oS rfl ?_
  refine ex_oS rfl ?_
  refine ex_oS rfl ?_
  refine ex_oS (ex_oX rfl (by decide +kernel)) ?_
  refine ex_oV (ex_oM rfl e3 rfl rfl rfl rfl) e2 ?_
  refine ex_oS (ex_bT2 rfl (ex_eq_r v)) ?_
  exact ex_endA b1 b2
set_option maxRecDepth 100000 in
theorem ex_l21 {n : Nat} (xs : Nat → Int32) : ex_Ok 6 xs (n + 100) (743, [(3, .int 0), (2, .ref 219), (1, .ref 148), (0, .ref 147)], [], ex_h0) := by
  refine ex_oS rfl ?_
  refine ex_oS rfl ?_
  refine ex_oS rfl ?_
  refine ex_oS rfl ?_
  refine ex_oS rfl ?_
  refine ex_oS (ex_oX rfl (by decide +kernel)) ?_
  refine ex_oB rfl (ex_e_contents 999940 _) (by decide) ?_
  intro v h h' fs e2 b1 b2 e3
  refine ex_oS rfl ?_
  refine ex_oS rfl ?_
  refine ex_oS rfl ?_
  refine ex_oS rfl ?_
  refine ex_oS rfl ?_
  refine ex_oS (ex_oX rfl (by decide +kernel)) ?_
  refine ex_oV (ex_oM rfl e3 rfl rfl rfl rfl) e2 ?_
  refine ex_oS (ex_bT2 rfl (ex_eq_r v)) ?_
  exact ex_endA b1 b2
set_option maxRecDepth 100000 in
theorem ex_l22 {n : Nat} (xs : Nat → Int32) : ex_Ok 6 xs (n + 100) (766, [(3, .int 0), (2, .ref 219), (1, .ref 148), (0, .ref 147)], [], ex_h0) := by
  refine ex_oS rfl ?_
  refine ex_oS rfl ?_
  refine ex_oS rfl ?_
  refine ex_oS rfl ?_
  refine ex_oS rfl ?_
  refine ex_oS (ex_oX rfl (by decide +kernel)) ?_
  refine ex_oB rfl (ex_e_info 999940 _) (by decide) ?_
  intro v h h' fs e2 b1 b2 e3
  refine ex_oS rfl ?_
  refine ex_oS rfl ?_
  refine ex_oS rfl ?_
  refine ex_oS rfl ?_
  refine ex_oS rfl ?_
  refine ex_oS (ex_oX rfl (by decide +kernel)) ?_
  refine ex_oV (ex_oM rfl e3 rfl rfl rfl rfl) e2 ?_
  refine ex_oS (ex_bT2 rfl (ex_eq_r v)) ?_
  exact ex_endA b1 b2
set_option maxRecDepth 100000 in
theorem ex_l23 {n : Nat} (xs : Nat → Int32) : ex_Ok 6 xs (n + 100) (789, [(3, .int 0), (2, .ref 219), (1, .ref 148), (0, .ref 147)], [], ex_h0) := by
  refine ex_oS rfl ?_
  refine ex_oB rfl (ex_e_whole) (by decide) ?_
  intro v h h' fs e2 b1 b2 e3
  refine ex_oS rfl ?_
  refine ex_oV (ex_oM rfl e3 rfl rfl rfl rfl) e2 ?_
  refine ex_oS (ex_bT2 rfl (ex_eq_r v)) ?_
  exact ex_endA b1 b2
set_option maxRecDepth 100000 in
theorem ex_l24 {n : Nat} (xs : Nat → Int32) : ex_Ok 6 xs (n + 100) (802, [(3, .int 0), (2, .ref 219), (1, .ref 148), (0, .ref 147)], [], ex_h0) := by
  refine ex_oS rfl ?_
  refine ex_oB rfl (ex_e_more) (by decide) ?_
  intro v h h' fs e2 b1 b2 e3
  refine ex_oS rfl ?_
  refine ex_oV (ex_oM rfl e3 rfl rfl rfl rfl) e2 ?_
  refine ex_oS (ex_bT2 rfl (ex_eq_r v)) ?_
  exact ex_endA b1 b2
set_option maxRecDepth 100000 in
theorem ex_l25 {n : Nat} (xs : Nat → Int32) : ex_Ok 6 xs (n + 100) (815, [(3, .int 0), (2, .ref 219), (1, .ref 148), (0, .ref 147)], [], ex_h0) := by
  refine ex_oS rfl ?_
  refine ex_oB rfl (ex_e_outs) (by decide) ?_
  intro v h h' fs e2 b1 b2 e3
  refine ex_oS rfl ?_
  refine ex_oV (ex_oM rfl e3 rfl rfl rfl rfl) e2 ?_
  refine ex_oS (ex_bT2 rfl (ex_eq_r v)) ?_
  exact ex_endA b1 b2
set_option maxRecDepth 100000 in
theorem ex_l26 {n : Nat} (xs : Nat → Int32) : ex_Ok 6 xs (n + 100) (828, [(3, .int 0), (2, .ref 219), (1, .ref 148), (0, .ref 147)], [], ex_h0) := by
  refine ex_oS rfl ?_
  refine ex_oS rfl ?_
  refine ex_oS rfl ?_
  refine ex_oS rfl ?_
  refine ex_oS rfl ?_
  refine ex_oS (ex_oX rfl (by decide +kernel)) ?_
  refine ex_oB rfl (ex_e_out 999940 _) (by decide) ?_
  intro v h h' fs e2 b1 b2 e3
  refine ex_oS rfl ?_
  refine ex_oS rfl ?_
  refine ex_oS rfl ?_
  refine ex_oS rfl ?_
  refine ex_oS rfl ?_
  refine ex_oS (ex_oX rfl (by decide +kernel)) ?_
  refine ex_oV (ex_oM rfl e3 rfl rfl rfl rfl) e2 ?_
  refine ex_oS (ex_bT2 rfl (ex_eq_r v)) ?_
  exact ex_endA b1 b2
set_option maxRecDepth 100000 in
theorem ex_l27 {n : Nat} (xs : Nat → Int32) : ex_Ok 6 xs (n + 100) (851, [(3, .int 0), (2, .ref 219), (1, .ref 148), (0, .ref 147)], [], ex_h0) := by
  refine ex_oS rfl ?_
  refine ex_oB rfl (ex_e_sum) (by decide) ?_
  intro v h h' fs e2 b1 b2 e3
  refine ex_oS rfl ?_
  refine ex_oV (ex_oM rfl e3 rfl rfl rfl rfl) e2 ?_
  refine ex_oS (ex_bT2 rfl (ex_eq_r v)) ?_
  exact ex_endA b1 b2
set_option maxRecDepth 100000 in
theorem ex_l28 {n : Nat} (xs : Nat → Int32) : ex_Ok 6 xs (n + 100) (864, [(3, .int 0), (2, .ref 219), (1, .ref 148), (0, .ref 147)], [], ex_h0) := by
  refine ex_oS rfl ?_
  refine ex_oB rfl (ex_e_take) (by decide) ?_
  intro v h h' fs e2 b1 b2 e3
  refine ex_oS rfl ?_
  refine ex_oV (ex_oM rfl e3 rfl rfl rfl rfl) e2 ?_
  refine ex_oS (ex_bT2 rfl (ex_eq_r v)) ?_
  exact ex_endA b1 b2
set_option maxRecDepth 100000 in
theorem ex_law6 (xs : Nat → Int32) : ex_Ok 6 xs 200 (0, [(0, .ref 147)], [], ([], 0)) := by
  refine ex_begin (n := 190) ?_
  refine ex_oS rfl ?_
  refine ex_oS rfl ?_
  refine ex_oS rfl ?_
  refine ex_oS rfl ?_
  refine ex_oS rfl ?_
  refine ex_oS (ex_bF2 rfl (by decide +kernel)) ?_
  refine ex_oS rfl ?_
  refine ex_oS rfl ?_
  refine ex_oS (ex_oX rfl (by decide +kernel)) ?_
  refine ex_oS rfl ?_
  refine ex_oS rfl ?_
  generalize xs _ = a
  obtain ⟨q1, q2⟩ := ex_and31 a _ (show ex_v (Int8.ofInt 31).toInt32 = 31 by decide +kernel)
  have q : (a &&& (Int8.ofInt 31).toInt32).toInt = 0 ∨ (a &&& (Int8.ofInt 31).toInt32).toInt = 1 ∨ (a &&& (Int8.ofInt 31).toInt32).toInt = 2 ∨ (a &&& (Int8.ofInt 31).toInt32).toInt = 3 ∨ (a &&& (Int8.ofInt 31).toInt32).toInt = 4 ∨ (a &&& (Int8.ofInt 31).toInt32).toInt = 5 ∨ (a &&& (Int8.ofInt 31).toInt32).toInt = 6 ∨ (a &&& (Int8.ofInt 31).toInt32).toInt = 7 ∨ (a &&& (Int8.ofInt 31).toInt32).toInt = 8 ∨ (a &&& (Int8.ofInt 31).toInt32).toInt = 9 ∨ (a &&& (Int8.ofInt 31).toInt32).toInt = 10 ∨ (a &&& (Int8.ofInt 31).toInt32).toInt = 11 ∨ (a &&& (Int8.ofInt 31).toInt32).toInt = 12 ∨ (a &&& (Int8.ofInt 31).toInt32).toInt = 13 ∨ (a &&& (Int8.ofInt 31).toInt32).toInt = 14 ∨ (a &&& (Int8.ofInt 31).toInt32).toInt = 15 ∨ (a &&& (Int8.ofInt 31).toInt32).toInt = 16 ∨ (a &&& (Int8.ofInt 31).toInt32).toInt = 17 ∨ (a &&& (Int8.ofInt 31).toInt32).toInt = 18 ∨ (a &&& (Int8.ofInt 31).toInt32).toInt = 19 ∨ (a &&& (Int8.ofInt 31).toInt32).toInt = 20 ∨ (a &&& (Int8.ofInt 31).toInt32).toInt = 21 ∨ (a &&& (Int8.ofInt 31).toInt32).toInt = 22 ∨ (a &&& (Int8.ofInt 31).toInt32).toInt = 23 ∨ (a &&& (Int8.ofInt 31).toInt32).toInt = 24 ∨ (a &&& (Int8.ofInt 31).toInt32).toInt = 25 ∨ (a &&& (Int8.ofInt 31).toInt32).toInt = 26 ∨ (a &&& (Int8.ofInt 31).toInt32).toInt = 27 ∨ (a &&& (Int8.ofInt 31).toInt32).toInt = 28 ∨ (28 : Int) < (a &&& (Int8.ofInt 31).toInt32).toInt := by omega
  rcases q with q | q | q | q | q | q | q | q | q | q | q | q | q | q | q | q | q | q | q | q | q | q | q | q | q | q | q | q | q | q
  · exact ex_oS (ex_oI (t := 164) 0 rfl q (by decide) rfl (by decide)) (ex_l0 xs)
  · exact ex_oS (ex_oI (t := 227) 1 rfl q (by decide) rfl (by decide)) (ex_l1 xs)
  · exact ex_oS (ex_oI (t := 250) 2 rfl q (by decide) rfl (by decide)) (ex_l2 xs)
  · exact ex_oS (ex_oI (t := 263) 3 rfl q (by decide) rfl (by decide)) (ex_l3 xs)
  · exact ex_oS (ex_oI (t := 286) 4 rfl q (by decide) rfl (by decide)) (ex_l4 xs)
  · exact ex_oS (ex_oI (t := 299) 5 rfl q (by decide) rfl (by decide)) (ex_l5 xs)
  · exact ex_oS (ex_oI (t := 322) 6 rfl q (by decide) rfl (by decide)) (ex_l6 xs)
  · exact ex_oS (ex_oI (t := 345) 7 rfl q (by decide) rfl (by decide)) (ex_l7 xs)
  · exact ex_oS (ex_oI (t := 358) 8 rfl q (by decide) rfl (by decide)) (ex_l8 xs)
  · exact ex_oS (ex_oI (t := 381) 9 rfl q (by decide) rfl (by decide)) (ex_l9 xs)
  · exact ex_oS (ex_oI (t := 430) 10 rfl q (by decide) rfl (by decide)) (ex_l10 xs)
  · exact ex_oS (ex_oI (t := 453) 11 rfl q (by decide) rfl (by decide)) (ex_l11 xs)
  · exact ex_oS (ex_oI (t := 486) 12 rfl q (by decide) rfl (by decide)) (ex_l12 xs)
  · exact ex_oS (ex_oI (t := 509) 13 rfl q (by decide) rfl (by decide)) (ex_l13 xs)
  · exact ex_oS (ex_oI (t := 522) 14 rfl q (by decide) rfl (by decide)) (ex_l14 xs)
  · exact ex_oS (ex_oI (t := 555) 15 rfl q (by decide) rfl (by decide)) (ex_l15 xs)
  · exact ex_oS (ex_oI (t := 578) 16 rfl q (by decide) rfl (by decide)) (ex_l16 xs)
  · exact ex_oS (ex_oI (t := 611) 17 rfl q (by decide) rfl (by decide)) (ex_l17 xs)
  · exact ex_oS (ex_oI (t := 654) 18 rfl q (by decide) rfl (by decide)) (ex_l18 xs)
  · exact ex_oS (ex_oI (t := 677) 19 rfl q (by decide) rfl (by decide)) (ex_l19 xs)
  · exact ex_oS (ex_oI (t := 710) 20 rfl q (by decide) rfl (by decide)) (ex_l20 xs)
  · exact ex_oS (ex_oI (t := 743) 21 rfl q (by decide) rfl (by decide)) (ex_l21 xs)
  · exact ex_oS (ex_oI (t := 766) 22 rfl q (by decide) rfl (by decide)) (ex_l22 xs)
  · exact ex_oS (ex_oI (t := 789) 23 rfl q (by decide) rfl (by decide)) (ex_l23 xs)
  · exact ex_oS (ex_oI (t := 802) 24 rfl q (by decide) rfl (by decide)) (ex_l24 xs)
  · exact ex_oS (ex_oI (t := 815) 25 rfl q (by decide) rfl (by decide)) (ex_l25 xs)
  · exact ex_oS (ex_oI (t := 828) 26 rfl q (by decide) rfl (by decide)) (ex_l26 xs)
  · exact ex_oS (ex_oI (t := 851) 27 rfl q (by decide) rfl (by decide)) (ex_l27 xs)
  · exact ex_oS (ex_oI (t := 864) 28 rfl q (by decide) rfl (by decide)) (ex_l28 xs)
  · refine ex_oS (ex_bO (t := 877) rfl (Or.inr q) (by decide)) ?_
    exact ex_endA (h := ex_h0) (Nat.le_of_ble_eq_true rfl) (Nat.le_of_ble_eq_true rfl)
set_option maxRecDepth 100000 in
theorem ex_law0 (xs : Nat → Int32) : ex_Ok 0 xs 200 (0, [(0, .ref 147)], [], ([], 0)) := by
  refine ex_begin (n := 190) ?_
  refine ex_oS rfl ?_
  refine ex_oS rfl ?_
  refine ex_oS rfl ?_
  refine ex_oS rfl ?_
  refine ex_oS rfl ?_
  refine ex_oS (ex_bT2 rfl (by decide +kernel)) ?_
  refine ex_oS rfl ?_
  exact ex_oR (ex_oT rfl) (Nat.le_of_ble_eq_true rfl) (Nat.le_of_ble_eq_true rfl)
set_option maxRecDepth 100000 in
theorem ex_law1 (xs : Nat → Int32) : ex_Ok 1 xs 200 (0, [(0, .ref 147)], [], ([], 0)) := by
  refine ex_begin (n := 190) ?_
  refine ex_oS rfl ?_
  refine ex_oS rfl ?_
  refine ex_oS rfl ?_
  refine ex_oS rfl ?_
  refine ex_oS rfl ?_
  refine ex_oS (ex_bT2 rfl (by decide +kernel)) ?_
  refine ex_oS rfl ?_
  exact ex_oR (ex_oT rfl) (Nat.le_of_ble_eq_true rfl) (Nat.le_of_ble_eq_true rfl)
set_option maxRecDepth 100000 in
theorem ex_law2 (xs : Nat → Int32) : ex_Ok 2 xs 200 (0, [(0, .ref 147)], [], ([], 0)) := by
  refine ex_begin (n := 190) ?_
  refine ex_oS rfl ?_
  refine ex_oS rfl ?_
  refine ex_oS rfl ?_
  refine ex_oS rfl ?_
  refine ex_oS rfl ?_
  refine ex_oS (ex_bT2 rfl (by decide +kernel)) ?_
  refine ex_oS rfl ?_
  exact ex_oR (ex_oT rfl) (Nat.le_of_ble_eq_true rfl) (Nat.le_of_ble_eq_true rfl)
set_option maxRecDepth 100000 in
theorem ex_law3 (xs : Nat → Int32) : ex_Ok 3 xs 200 (0, [(0, .ref 147)], [], ([], 0)) := by
  refine ex_begin (n := 190) ?_
  refine ex_oS rfl ?_
  refine ex_oS rfl ?_
  refine ex_oS rfl ?_
  refine ex_oS rfl ?_
  refine ex_oS rfl ?_
  refine ex_oS (ex_bT2 rfl (by decide +kernel)) ?_
  refine ex_oS rfl ?_
  exact ex_oR (ex_oT rfl) (Nat.le_of_ble_eq_true rfl) (Nat.le_of_ble_eq_true rfl)
set_option maxRecDepth 100000 in
theorem ex_law4 (xs : Nat → Int32) : ex_Ok 4 xs 200 (0, [(0, .ref 147)], [], ([], 0)) := by
  refine ex_begin (n := 190) ?_
  refine ex_oS rfl ?_
  refine ex_oS rfl ?_
  refine ex_oS rfl ?_
  refine ex_oS rfl ?_
  refine ex_oS rfl ?_
  refine ex_oS (ex_bT2 rfl (by decide +kernel)) ?_
  refine ex_oS rfl ?_
  exact ex_oR (ex_oT rfl) (Nat.le_of_ble_eq_true rfl) (Nat.le_of_ble_eq_true rfl)
set_option maxRecDepth 100000 in
theorem ex_law5 (xs : Nat → Int32) : ex_Ok 5 xs 200 (0, [(0, .ref 147)], [], ([], 0)) := by
  refine ex_begin (n := 190) ?_
  refine ex_oS rfl ?_
  refine ex_oS rfl ?_
  refine ex_oS rfl ?_
  refine ex_oS rfl ?_
  refine ex_oS rfl ?_
  refine ex_oS (ex_bT2 rfl (by decide +kernel)) ?_
  refine ex_oS rfl ?_
  exact ex_oR (ex_oT rfl) (Nat.le_of_ble_eq_true rfl) (Nat.le_of_ble_eq_true rfl)
theorem ex_law {L : Nat} (hL : L ≤ 6) (xs : Nat → Int32) : ex_Ok L xs 200 (0, [(0, .ref 147)], [], ([], 0)) := by
  match L, hL with
  | 0, _ => exact ex_law0 xs
  | 1, _ => exact ex_law1 xs
  | 2, _ => exact ex_law2 xs
  | 3, _ => exact ex_law3 xs
  | 4, _ => exact ex_law4 xs
  | 5, _ => exact ex_law5 xs
  | 6, _ => exact ex_law6 xs
  | n + 7, h => exact absurd h (by omega)
