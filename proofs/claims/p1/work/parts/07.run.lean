/-! ===== returns, calls, the loop: what the interpreter runs, the machine runs ===== -/
def ex_isR (i : Instr) : Nat := match i with
  | .ireturn => 1
  | .lreturn => 2
  | .areturn => 3
  | .return_ => 4
  | _ => 0
def ex_isC (i : Instr) : Nat := match i with
  | .invokevirtual _ => 1
  | .invokespecial _ => 2
  | .invokestatic _ => 3
  | _ => 0
section EXR
variable {g : ex_G} {nL : Nat} {rt : Option FieldType} {pc nx x y z : Nat} {lv : ex_V} {st : List Value} {h : ex_H} {q : ex_O}
def ex_kd (ins : Instr) (h : ex_H) (q : ex_O) : Prop :=
  (∃ f : ex_F, q = .inl f ∧ h.1.length ≤ f.2.2.2.1.length ∧ h.2 ≤ f.2.2.2.2) ∨ (∃ r : Option Value, q = .inr (.inl (r, h)) ∧ ¬ ex_isR ins = 0) ∨ (∃ (k : Nat) (as : List Value) (f : ex_F), q = .inr (.inr (k, as, f)) ∧ f.2.2.2 = h ∧ ¬ ex_isC ins = 0)
theorem ex_kd_go {ins : Instr} {f : ex_F} (e : q = .inl f) (h1 : f.2.2.2 = h) : ex_kd ins h q := Or.inl ⟨f, e, by rw [h1]; exact Nat.le_refl _, by rw [h1]; exact Nat.le_refl _⟩
theorem ex_kd_set {ins : Instr} {a : Nat} {v : ex_V} {r : List Value} {i : Nat} {c : ex_C} (e : q = .inl (a, v, r, ex_set g h i c)) : ex_kd ins h q := Or.inl ⟨_, e, by show h.1.length ≤ (ex_lset h.1 _ _).length; rw [ex_lset_eq, List.length_set]; exact Nat.le_refl _, Nat.le_refl _⟩
theorem ex_kd_new {ins : Instr} {a n : Nat} {v : ex_V} {r : List Value} {c : ex_C} (e : q = .inl (a, v, r, (h.1 ++ [c], h.2 + n))) : ex_kd ins h q := Or.inl ⟨_, e, by show h.1.length ≤ (h.1 ++ [c]).length; rw [List.length_append]; exact Nat.le_add_right _ _, Nat.le_add_right _ _⟩
theorem ex_callV_v {k n ci : Nat} (hq : ex_callV g k n ci nx lv st h = some q) : ∃ (A : List Value) (b : Nat) (r fs : List Value), st = A ++ .ref b :: r ∧ A.length = n ∧ ex_get g h b = some (.inl (ci, fs)) ∧ ex_w r ≤ 8 ∧ q = .inr (.inr (k, .ref b :: A.reverse, (nx, lv, r, h))) := by
  unfold ex_callV at hq
  split at hq
  · rename_i b r hdr
    split at hq
    · rename_i cj fs hg
      cases hb : (Nat.beq ci cj && Nat.ble (ex_w r) 8 && Nat.beq (st.take n).length n) with
      | false => rw [hb] at hq; cases hq
      | true =>
        rw [hb] at hq
        cases hq
        rw [Bool.and_eq_true, Bool.and_eq_true] at hb
        have e := Nat.eq_of_beq_eq_true hb.1.1
        subst e
        exact ⟨st.take n, b, r, fs, by rw [← hdr, List.take_append_drop], Nat.eq_of_beq_eq_true hb.2, hg, Nat.le_of_ble_eq_true hb.1.2, rfl⟩
    · cases hq
  · cases hq
theorem ex_callI_v {k n : Nat} (hk : ¬ k = 1000000) (hq : ex_callI k n nx lv st h = some q) : ∃ (A : List Value) (b : Nat) (r : List Value), st = A ++ .ref b :: r ∧ A.length = n ∧ ex_w r ≤ 8 ∧ q = .inr (.inr (k, .ref b :: A.reverse, (nx, lv, r, h))) := by
  unfold ex_callI at hq
  have hb0 : Nat.beq k 1000000 = false := by
    cases hb : Nat.beq k 1000000 with
    | false => rfl
    | true => exact absurd (Nat.eq_of_beq_eq_true hb) hk
  rw [hb0] at hq
  simp only [cond_false] at hq
  split at hq
  · rename_i b r hdr
    cases hb : (Nat.ble (ex_w r) 8 && Nat.beq (st.take n).length n) with
    | false => rw [hb] at hq; cases hq
    | true =>
      rw [hb] at hq
      cases hq
      rw [Bool.and_eq_true] at hb
      exact ⟨st.take n, b, r, by rw [← hdr, List.take_append_drop], Nat.eq_of_beq_eq_true hb.2, Nat.le_of_ble_eq_true hb.1, rfl⟩
  · cases hq
theorem ex_callI_go {n : Nat} (hq : ex_callI 1000000 n nx lv st h = some q) : ∃ (a : Nat) (r : List Value), st = .ref a :: r ∧ ex_w r ≤ 8 ∧ q = .inl (nx, lv, r, h) := by
  unfold ex_callI at hq
  rw [show Nat.beq 1000000 1000000 = true from rfl] at hq
  simp only [cond_true] at hq
  split at hq
  · rename_i a r
    cases hb : Nat.ble (ex_w r) 8 with
    | false => rw [hb] at hq; cases hq
    | true => rw [hb] at hq; cases hq; exact ⟨a, r, rfl, Nat.le_of_ble_eq_true hb, rfl⟩
  · cases hq
theorem ex_callS_v {k n : Nat} (hk : k < 1000000) (hq : ex_callS g k n nx lv st h = some q) : ∃ (A r : List Value), st = A ++ r ∧ A.length = n ∧ ex_w r ≤ 8 ∧ q = .inr (.inr (k, A.reverse, (nx, lv, r, h))) := by
  unfold ex_callS at hq
  have hb0 : Nat.beq k 1000000 = false := by
    cases hb : Nat.beq k 1000000 with
    | false => rfl
    | true => exact absurd (Nat.eq_of_beq_eq_true hb) (by omega)
  rw [hb0, ex_blt (show ¬ 1000000 < k by omega)] at hq
  simp only [cond_false] at hq
  cases hb : (Nat.ble (ex_w (st.drop n)) 8 && Nat.beq (st.take n).length n) with
  | false => rw [hb] at hq; cases hq
  | true =>
    rw [hb] at hq
    cases hq
    rw [Bool.and_eq_true] at hb
    exact ⟨st.take n, st.drop n, (List.take_append_drop n st).symm, Nat.eq_of_beq_eq_true hb.2, Nat.le_of_ble_eq_true hb.1, rfl⟩
theorem ex_callS_go {n : Nat} (hq : ex_callS g 1000000 n nx lv st h = some q) : ex_cpy g nx lv st h = some q := hq
theorem ex_callS_math {k n : Nat} (hk : 1000000 < k) (hq : ex_callS g k n nx lv st h = some q) : ex_math k nx lv st h = some q := by
  unfold ex_callS at hq
  have hb0 : Nat.beq k 1000000 = false := by
    cases hb : Nat.beq k 1000000 with
    | false => rfl
    | true => exact absurd (Nat.eq_of_beq_eq_true hb) (by omega)
  rw [hb0, Nat.blt_eq.mpr hk] at hq
  exact hq
theorem ex_ret_v (hq : ex_ret rt st h = some q) : ∃ (v : Int32) (ty : FieldType), rt = some ty ∧ st = [.int v] ∧ narrow ty (.int v) = .int v ∧ q = .inr (.inl (some (.int v), h)) := by
  unfold ex_ret at hq
  split at hq
  · rename_i v
    cases hq
    exact ⟨v, _, rfl, rfl, rfl, rfl⟩
  · rename_i v
    cases hb : (v == 0 || v == 1) with
    | false => rw [hb] at hq; cases hq
    | true =>
      rw [hb] at hq
      cases hq
      refine ⟨v, _, rfl, rfl, ?_, rfl⟩
      rw [Bool.or_eq_true] at hb
      rcases hb with hb | hb
      · have e : v = 0 := by simpa using hb
        subst e
        rfl
      · have e : v = 1 := by simpa using hb
        subst e
        rfl
  · rename_i v
    cases hb : decide (narrow .char (.int v) = .int v) with
    | false => rw [hb] at hq; cases hq
    | true => rw [hb] at hq; cases hq; exact ⟨v, _, rfl, rfl, of_decide_eq_true hb, rfl⟩
  · rename_i v
    cases hb : decide (narrow .byte (.int v) = .int v) with
    | false => rw [hb] at hq; cases hq
    | true => rw [hb] at hq; cases hq; exact ⟨v, _, rfl, rfl, of_decide_eq_true hb, rfl⟩
  · cases hq
theorem ex_lret_v (hq : ex_lret rt st h = some q) : ∃ v : Int64, rt = some .long ∧ st = [.long v] ∧ q = .inr (.inl (some (.long v), h)) := by
  unfold ex_lret at hq
  split at hq
  · cases hq; exact ⟨_, rfl, rfl, rfl⟩
  · cases hq
theorem ex_aret_v (hq : ex_aret rt st h = some q) : ∃ (v : Nat) (C : String), rt = some (.object C) ∧ st = [.ref v] ∧ q = .inr (.inl (some (.ref v), h)) := by
  unfold ex_aret at hq
  split at hq
  · cases hq; exact ⟨_, _, rfl, rfl, rfl⟩
  · cases hq
theorem ex_vret_v (hq : ex_vret rt st h = some q) : rt = none ∧ st = [] ∧ q = .inr (.inl (none, h)) := by
  unfold ex_vret at hq
  split at hq
  · cases hq; exact ⟨rfl, rfl, rfl⟩
  · cases hq
set_option maxHeartbeats 4000000 in
/-- an instruction goes on, or returns, or calls; the heap doesn't shrink -/
theorem ex_kind {ins : Instr} (hs : ex_step g nL rt (ins, x, y, z, nx) pc lv st h = some q) : ex_kd ins h q := by
  cases ins with
  | iconst n =>
    cases (show ex_go nx lv (.int (Int32.ofInt n) :: st) h = some q from hs)
    exact ex_kd_go rfl rfl
  | bipush n =>
    cases (show ex_go nx lv (.int (Int8.ofInt n).toInt32 :: st) h = some q from hs)
    exact ex_kd_go rfl rfl
  | sipush n =>
    cases (show ex_go nx lv (.int (Int16.ofInt n).toInt32 :: st) h = some q from hs)
    exact ex_kd_go rfl rfl
  | lconst n =>
    cases (show ex_go nx lv (.long (Int64.ofNat (n : Nat)) :: st) h = some q from hs)
    exact ex_kd_go rfl rfl
  | ldc2_w i =>
    cases (show ex_go nx lv (.long (Int64.ofNat x) :: st) h = some q from hs)
    exact ex_kd_go rfl rfl
  | ldc i =>
    have hs : ex_ldc x y nx lv st h = some q := hs
    unfold ex_ldc at hs
    cases hb : Nat.beq y 0 with
    | true => rw [hb] at hs; cases (show some _ = some q from hs); exact ex_kd_go rfl rfl
    | false =>
      rw [hb] at hs
      simp only [cond_false] at hs
      cases hb1 : Nat.beq y 1 with
      | true => rw [hb1] at hs; cases (show some _ = some q from hs); exact ex_kd_go rfl rfl
      | false => rw [hb1] at hs; cases (show some _ = some q from hs); exact ex_kd_go rfl rfl
  | ldc_w i =>
    have hs : ex_ldc x y nx lv st h = some q := hs
    unfold ex_ldc at hs
    cases hb : Nat.beq y 0 with
    | true => rw [hb] at hs; cases (show some _ = some q from hs); exact ex_kd_go rfl rfl
    | false =>
      rw [hb] at hs
      simp only [cond_false] at hs
      cases hb1 : Nat.beq y 1 with
      | true => rw [hb1] at hs; cases (show some _ = some q from hs); exact ex_kd_go rfl rfl
      | false => rw [hb1] at hs; cases (show some _ = some q from hs); exact ex_kd_go rfl rfl
  | getstatic i =>
    have hs : ex_ldc x y nx lv st h = some q := hs
    unfold ex_ldc at hs
    cases hb : Nat.beq y 0 with
    | true => rw [hb] at hs; cases (show some _ = some q from hs); exact ex_kd_go rfl rfl
    | false =>
      rw [hb] at hs
      simp only [cond_false] at hs
      cases hb1 : Nat.beq y 1 with
      | true => rw [hb1] at hs; cases (show some _ = some q from hs); exact ex_kd_go rfl rfl
      | false => rw [hb1] at hs; cases (show some _ = some q from hs); exact ex_kd_go rfl rfl
  | iload_n k =>
    obtain ⟨_, _, e1⟩ := ex_ild_v (show ex_ild k nx lv st h = some q from hs)
    exact ex_kd_go e1 rfl
  | iload k =>
    obtain ⟨_, _, e1⟩ := ex_ild_v (show ex_ild k nx lv st h = some q from hs)
    exact ex_kd_go e1 rfl
  | lload_n k =>
    obtain ⟨_, _, e1⟩ := ex_lld1_v (show ex_lld1 k nx lv st h = some q from hs)
    exact ex_kd_go e1 rfl
  | lload k =>
    obtain ⟨_, _, e1⟩ := ex_lld1_v (show ex_lld1 k nx lv st h = some q from hs)
    exact ex_kd_go e1 rfl
  | aload_n k =>
    obtain ⟨_, _, e1⟩ := ex_ald_v (show ex_ald k nx lv st h = some q from hs)
    exact ex_kd_go e1 rfl
  | aload k =>
    obtain ⟨_, _, e1⟩ := ex_ald_v (show ex_ald k nx lv st h = some q from hs)
    exact ex_kd_go e1 rfl
  | istore_n k =>
    obtain ⟨_, _, _, _, e1⟩ := ex_ist_v (show ex_ist nL k nx lv st h = some q from hs)
    exact ex_kd_go e1 rfl
  | istore k =>
    obtain ⟨_, _, _, _, e1⟩ := ex_ist_v (show ex_ist nL k nx lv st h = some q from hs)
    exact ex_kd_go e1 rfl
  | lstore_n k =>
    obtain ⟨_, _, _, _, e1⟩ := ex_lst_v (show ex_lst nL k nx lv st h = some q from hs)
    exact ex_kd_go e1 rfl
  | lstore k =>
    obtain ⟨_, _, _, _, e1⟩ := ex_lst_v (show ex_lst nL k nx lv st h = some q from hs)
    exact ex_kd_go e1 rfl
  | astore_n k =>
    obtain ⟨_, _, _, _, e1⟩ := ex_ast_v (show ex_ast nL k nx lv st h = some q from hs)
    exact ex_kd_go e1 rfl
  | astore k =>
    obtain ⟨_, _, _, _, e1⟩ := ex_ast_v (show ex_ast nL k nx lv st h = some q from hs)
    exact ex_kd_go e1 rfl
  | iinc k n =>
    obtain ⟨_, _, _, e1⟩ := ex_inc_v (show ex_inc nL k n nx lv st h = some q from hs)
    exact ex_kd_go e1 rfl
  | iadd =>
    obtain ⟨_, _, _, _, e1⟩ := ex_ii_v (show ex_ii ex_add nx lv st h = some q from hs)
    exact ex_kd_go e1 rfl
  | isub =>
    obtain ⟨_, _, _, _, e1⟩ := ex_ii_v (show ex_ii ex_sub nx lv st h = some q from hs)
    exact ex_kd_go e1 rfl
  | imul =>
    obtain ⟨_, _, _, _, e1⟩ := ex_ii_v (show ex_ii (fun x y => x * y) nx lv st h = some q from hs)
    exact ex_kd_go e1 rfl
  | iand =>
    obtain ⟨_, _, _, _, e1⟩ := ex_ii_v (show ex_ii (fun x y => x &&& y) nx lv st h = some q from hs)
    exact ex_kd_go e1 rfl
  | ior =>
    obtain ⟨_, _, _, _, e1⟩ := ex_ii_v (show ex_ii (fun x y => x ||| y) nx lv st h = some q from hs)
    exact ex_kd_go e1 rfl
  | ixor =>
    obtain ⟨_, _, _, _, e1⟩ := ex_ii_v (show ex_ii (fun x y => x ^^^ y) nx lv st h = some q from hs)
    exact ex_kd_go e1 rfl
  | ishl =>
    obtain ⟨_, _, _, _, e1⟩ := ex_ii_v (show ex_ii (fun x y => x <<< (y &&& 31)) nx lv st h = some q from hs)
    exact ex_kd_go e1 rfl
  | ishr =>
    obtain ⟨_, _, _, _, e1⟩ := ex_ii_v (show ex_ii (fun x y => x >>> (y &&& 31)) nx lv st h = some q from hs)
    exact ex_kd_go e1 rfl
  | iushr =>
    obtain ⟨_, _, _, _, e1⟩ := ex_ii_v (show ex_ii (fun x y => (x.toUInt32 >>> (y.toUInt32 &&& Int32.toUInt32 31)).toInt32) nx lv st h = some q from hs)
    exact ex_kd_go e1 rfl
  | idiv =>
    obtain ⟨_, _, _, _, _, e1⟩ := ex_iid_v (show ex_iid (fun x y => x / y) nx lv st h = some q from hs)
    exact ex_kd_go e1 rfl
  | irem =>
    obtain ⟨_, _, _, _, _, e1⟩ := ex_iid_v (show ex_iid (fun x y => x - x / y * y) nx lv st h = some q from hs)
    exact ex_kd_go e1 rfl
  | ladd =>
    obtain ⟨_, _, _, _, e1⟩ := ex_ll_v (show ex_ll (fun x y => x + y) nx lv st h = some q from hs)
    exact ex_kd_go e1 rfl
  | lsub =>
    obtain ⟨_, _, _, _, e1⟩ := ex_ll_v (show ex_ll (fun x y => x - y) nx lv st h = some q from hs)
    exact ex_kd_go e1 rfl
  | lmul =>
    obtain ⟨_, _, _, _, e1⟩ := ex_ll_v (show ex_ll (fun x y => x * y) nx lv st h = some q from hs)
    exact ex_kd_go e1 rfl
  | land =>
    obtain ⟨_, _, _, _, e1⟩ := ex_ll_v (show ex_ll (fun x y => x &&& y) nx lv st h = some q from hs)
    exact ex_kd_go e1 rfl
  | lor =>
    obtain ⟨_, _, _, _, e1⟩ := ex_ll_v (show ex_ll (fun x y => x ||| y) nx lv st h = some q from hs)
    exact ex_kd_go e1 rfl
  | lxor =>
    obtain ⟨_, _, _, _, e1⟩ := ex_ll_v (show ex_ll (fun x y => x ^^^ y) nx lv st h = some q from hs)
    exact ex_kd_go e1 rfl
  | ldiv =>
    obtain ⟨_, _, _, _, _, e1⟩ := ex_lld_v (show ex_lld (fun x y => x / y) nx lv st h = some q from hs)
    exact ex_kd_go e1 rfl
  | lrem =>
    obtain ⟨_, _, _, _, _, e1⟩ := ex_lld_v (show ex_lld (fun x y => x - x / y * y) nx lv st h = some q from hs)
    exact ex_kd_go e1 rfl
  | lshl =>
    obtain ⟨_, _, _, _, e1⟩ := ex_li_v (show ex_li (fun x y => x <<< (y.toInt64 &&& 63)) nx lv st h = some q from hs)
    exact ex_kd_go e1 rfl
  | lshr =>
    obtain ⟨_, _, _, _, e1⟩ := ex_li_v (show ex_li (fun x y => x >>> (y.toInt64 &&& 63)) nx lv st h = some q from hs)
    exact ex_kd_go e1 rfl
  | lushr =>
    obtain ⟨_, _, _, _, e1⟩ := ex_li_v (show ex_li (fun x y => (x.toUInt64 >>> (y.toInt64.toUInt64 &&& Int64.toUInt64 63)).toInt64) nx lv st h = some q from hs)
    exact ex_kd_go e1 rfl
  | ineg =>
    obtain ⟨_, _, _, e1⟩ := ex_i_v (show ex_i (fun x => .int (-x)) nx lv st h = some q from hs)
    exact ex_kd_go e1 rfl
  | i2l =>
    obtain ⟨_, _, _, e1⟩ := ex_i_v (show ex_i (fun x => .long x.toInt64) nx lv st h = some q from hs)
    exact ex_kd_go e1 rfl
  | i2b =>
    obtain ⟨_, _, _, e1⟩ := ex_i_v (show ex_i (fun x => .int x.toInt8.toInt32) nx lv st h = some q from hs)
    exact ex_kd_go e1 rfl
  | i2c =>
    obtain ⟨_, _, _, e1⟩ := ex_i_v (show ex_i (fun x => .int (x.toUInt32 % 65536).toInt32) nx lv st h = some q from hs)
    exact ex_kd_go e1 rfl
  | lneg =>
    obtain ⟨_, _, _, e1⟩ := ex_l_v (show ex_l (fun x => .long (-x)) nx lv st h = some q from hs)
    exact ex_kd_go e1 rfl
  | l2i =>
    obtain ⟨_, _, _, e1⟩ := ex_l_v (show ex_l (fun x => .int x.toInt32) nx lv st h = some q from hs)
    exact ex_kd_go e1 rfl
  | lcmp =>
    obtain ⟨_, _, _, _, e1⟩ := ex_lc_v (show ex_lc nx lv st h = some q from hs)
    exact ex_kd_go e1 rfl
  | ifCond cnd off =>
    cases cnd with
    | eq =>
      obtain ⟨_, _, _, ⟨_, e1⟩ | ⟨_, e1⟩⟩ := ex_if_v (show ex_if ex_eq0 x nx lv st h = some q from hs) <;> exact ex_kd_go e1 rfl
    | ne =>
      obtain ⟨_, _, _, ⟨_, e1⟩ | ⟨_, e1⟩⟩ := ex_if_v (show ex_if ex_ne0 x nx lv st h = some q from hs) <;> exact ex_kd_go e1 rfl
    | lt =>
      obtain ⟨_, _, _, ⟨_, e1⟩ | ⟨_, e1⟩⟩ := ex_if_v (show ex_if ex_lt0 x nx lv st h = some q from hs) <;> exact ex_kd_go e1 rfl
    | ge =>
      obtain ⟨_, _, _, ⟨_, e1⟩ | ⟨_, e1⟩⟩ := ex_if_v (show ex_if ex_ge0 x nx lv st h = some q from hs) <;> exact ex_kd_go e1 rfl
    | gt =>
      obtain ⟨_, _, _, ⟨_, e1⟩ | ⟨_, e1⟩⟩ := ex_if_v (show ex_if ex_gt0 x nx lv st h = some q from hs) <;> exact ex_kd_go e1 rfl
    | le =>
      obtain ⟨_, _, _, ⟨_, e1⟩ | ⟨_, e1⟩⟩ := ex_if_v (show ex_if ex_le0 x nx lv st h = some q from hs) <;> exact ex_kd_go e1 rfl
  | if_icmp cnd off =>
    cases cnd with
    | eq =>
      obtain ⟨_, _, _, _, ⟨_, e1⟩ | ⟨_, e1⟩⟩ := ex_ic_v (show ex_ic ex_eq x nx lv st h = some q from hs) <;> exact ex_kd_go e1 rfl
    | ne =>
      obtain ⟨_, _, _, _, ⟨_, e1⟩ | ⟨_, e1⟩⟩ := ex_ic_v (show ex_ic ex_ne x nx lv st h = some q from hs) <;> exact ex_kd_go e1 rfl
    | lt =>
      obtain ⟨_, _, _, _, ⟨_, e1⟩ | ⟨_, e1⟩⟩ := ex_ic_v (show ex_ic ex_lt x nx lv st h = some q from hs) <;> exact ex_kd_go e1 rfl
    | ge =>
      obtain ⟨_, _, _, _, ⟨_, e1⟩ | ⟨_, e1⟩⟩ := ex_ic_v (show ex_ic ex_ge x nx lv st h = some q from hs) <;> exact ex_kd_go e1 rfl
    | gt =>
      obtain ⟨_, _, _, _, ⟨_, e1⟩ | ⟨_, e1⟩⟩ := ex_ic_v (show ex_ic ex_gt x nx lv st h = some q from hs) <;> exact ex_kd_go e1 rfl
    | le =>
      obtain ⟨_, _, _, _, ⟨_, e1⟩ | ⟨_, e1⟩⟩ := ex_ic_v (show ex_ic ex_le x nx lv st h = some q from hs) <;> exact ex_kd_go e1 rfl
  | goto off =>
    cases (show ex_go x lv st h = some q from hs)
    exact ex_kd_go rfl rfl
  | tableswitch d lo hi offs =>
    obtain ⟨_, _, _, ⟨_, _, _, e1⟩ | ⟨_, _, _, _, _, e1⟩⟩ := ex_tsw_v (show ex_tsw d lo hi offs pc lv st h = some q from hs) <;> exact ex_kd_go e1 rfl
  | lookupswitch d ps =>
    obtain ⟨_, _, _, _, _, e1⟩ := ex_lsw_v (show ex_lsw d ps pc lv st h = some q from hs)
    exact ex_kd_go e1 rfl
  | dup =>
    obtain ⟨_, _, _, _, e1⟩ := ex_dup_v (show ex_dup nx lv st h = some q from hs)
    exact ex_kd_go e1 rfl
  | pop =>
    obtain ⟨_, _, _, _, e1⟩ := ex_pop_v (show ex_pop nx lv st h = some q from hs)
    exact ex_kd_go e1 rfl
  | dup_x1 =>
    obtain ⟨_, _, _, _, _, _, e1⟩ := ex_dupx1_v (show ex_dupx1 nx lv st h = some q from hs)
    exact ex_kd_go e1 rfl
  | dup2 =>
    obtain ⟨_, _, _, _, ⟨_, e1⟩ | ⟨_, _, e1⟩⟩ := ex_dup2_v (show ex_dup2 nx lv st h = some q from hs) <;> exact ex_kd_go e1 rfl
  | getfield i =>
    obtain ⟨_, _, _, _, _, _, _, e1⟩ := ex_gf_v (show ex_gf g x y nx lv st h = some q from hs)
    exact ex_kd_go e1 rfl
  | putfield i =>
    obtain ⟨_, _, _, _, _, _, _, _, _, _, e1⟩ := ex_pf_v (show ex_pf g (ex_ft x) x y nx lv st h = some q from hs)
    exact ex_kd_set e1
  | arraylength =>
    obtain ⟨_, _, _, _, _, _, _, _, e1⟩ := ex_len_v (show ex_len g nx lv st h = some q from hs)
    exact ex_kd_go e1 rfl
  | iaload =>
    obtain ⟨_, _, _, _, _, _, _, _, _, _, e1⟩ := ex_xld_v (show ex_xld g 0 0 nx lv st h = some q from hs)
    exact ex_kd_go e1 rfl
  | baload =>
    obtain ⟨_, _, _, _, _, _, _, _, _, _, e1⟩ := ex_xld_v (show ex_xld g 1 2 nx lv st h = some q from hs)
    exact ex_kd_go e1 rfl
  | laload =>
    obtain ⟨_, _, _, _, _, _, _, _, e1⟩ := ex_xlld_v (show ex_xlld g nx lv st h = some q from hs)
    exact ex_kd_go e1 rfl
  | aaload =>
    obtain ⟨_, _, _, _, _, _, _, _, _, _, e1⟩ := ex_xald_v (show ex_xald g nx lv st h = some q from hs)
    exact ex_kd_go e1 rfl
  | iastore =>
    obtain ⟨_, _, _, _, _, _, _, _, _, e1⟩ := ex_xst_v (show ex_xst g nx lv st h = some q from hs)
    exact ex_kd_set e1
  | lastore =>
    obtain ⟨_, _, _, _, _, _, _, _, _, e1⟩ := ex_xlst_v (show ex_xlst g nx lv st h = some q from hs)
    exact ex_kd_set e1
  | bastore =>
    obtain ⟨_, _, _, _, _, _, _, _, ⟨_, e1⟩ | ⟨_, e1⟩⟩ := ex_xbst_v (show ex_xbst g nx lv st h = some q from hs) <;> exact ex_kd_set e1
  | aastore =>
    obtain ⟨_, _, _, _, _, _, _, _, _, _, _, _, e1⟩ := ex_xast_v (show ex_xast g nx lv st h = some q from hs)
    exact ex_kd_set e1
  | new i =>
    cases (show ex_go nx lv (.ref (g.1 + h.1.length) :: st) (h.1 ++ [.inl (x, (ex_ft x).map defaultValue)], h.2 + (ex_ft x).length) = some q from hs)
    exact ex_kd_new rfl
  | newarray t =>
    obtain ⟨_, _, _, _, _, _, _, _, e1⟩ := ex_newa_v (show ex_newa g t nx lv st h = some q from hs)
    exact ex_kd_new e1
  | anewarray i =>
    obtain ⟨_, _, _, _, _, e1⟩ := ex_newq_v (show ex_newq g nx lv st h = some q from hs)
    exact ex_kd_new e1
  | ireturn =>
    obtain ⟨_, _, _, _, _, e1⟩ := ex_ret_v (show ex_ret rt st h = some q from hs)
    exact Or.inr (Or.inl ⟨_, e1, by decide⟩)
  | lreturn =>
    obtain ⟨_, _, _, e1⟩ := ex_lret_v (show ex_lret rt st h = some q from hs)
    exact Or.inr (Or.inl ⟨_, e1, by decide⟩)
  | areturn =>
    obtain ⟨_, _, _, _, e1⟩ := ex_aret_v (show ex_aret rt st h = some q from hs)
    exact Or.inr (Or.inl ⟨_, e1, by decide⟩)
  | return_ =>
    obtain ⟨_, _, e1⟩ := ex_vret_v (show ex_vret rt st h = some q from hs)
    exact Or.inr (Or.inl ⟨_, e1, by decide⟩)
  | invokevirtual i =>
    obtain ⟨_, _, _, _, _, _, _, _, e1⟩ := ex_callV_v (show ex_callV g x y z nx lv st h = some q from hs)
    exact Or.inr (Or.inr ⟨_, _, _, e1, rfl, by show ¬ 1 = 0; decide⟩)
  | invokespecial i =>
    by_cases hx : x = 1000000
    · subst hx
      obtain ⟨_, _, _, _, e1⟩ := ex_callI_go (show ex_callI 1000000 y nx lv st h = some q from hs)
      exact ex_kd_go e1 rfl
    · obtain ⟨_, _, _, _, _, _, e1⟩ := ex_callI_v hx (show ex_callI x y nx lv st h = some q from hs)
      exact Or.inr (Or.inr ⟨_, _, _, e1, rfl, by show ¬ 2 = 0; decide⟩)
  | invokestatic i =>
    by_cases hx : x = 1000000
    · subst hx
      obtain ⟨_, _, _, _, _, _, _, _, _, _, _, _, _, _, _, _, _, _, _, _, e1⟩ := ex_cpy_v (ex_callS_go (show ex_callS g 1000000 y nx lv st h = some q from hs))
      exact ex_kd_go e1 rfl
    · by_cases hx2 : 1000000 < x
      · obtain ⟨_, _, _, _, _, ⟨_, e1⟩ | ⟨_, e1⟩⟩ := ex_math_v (ex_callS_math hx2 (show ex_callS g x y nx lv st h = some q from hs)) <;> exact ex_kd_go e1 rfl
      · obtain ⟨_, _, _, _, _, e1⟩ := ex_callS_v (by omega) (show ex_callS g x y nx lv st h = some q from hs)
        exact Or.inr (Or.inr ⟨_, _, _, e1, rfl, by show ¬ 3 = 0; decide⟩)
  | _ => cases (show (none : Option ex_O) = some q from hs)
end EXR
/-- what a run leaves: its answer, its cells, all else as it was -/
def ex_Qc (g : ex_G) (o : ex_P) (r : Option Value) (h : ex_H) : Array Value → State → Outcome → State → Prop := fun _ st oc t => oc = .returned (r.map (ex_cv g o)) ∧ ex_Wd g o h t.heap ∧ va_F (ex_A o) st t
/-- what a run begins with -/
def ex_St (g : ex_G) (o : ex_P) (h : ex_H) (U : State) : Prop := va_K o.1 ex_cl (ex_tys o) U ∧ ex_X g o U U.heap ∧ ex_Wd g o h U.heap
def ex_ws (M : ex_M) : List Cond := Jvm.Cond.code M.1 M.2.1 M.2.2.1 M.2.2.2.1 :: ex_wall
def ex_rm (d mc ms : Nat) : Room := { frames := d, cells := mc, slots := ms, locals := 60 * d }
theorem ex_blind {g : ex_G} {o : ex_P} {h : ex_H} {av : List Value} : FrameBlind (va_Pc av (ex_St g o h)) := fun a U gf mk q =>
  ⟨q.1, va_K.moved (u := U) (U := U.calling gf mk a) (Vm.Alike.refl U.vm) q.2.1, ex_X.same (s := U) (U := U.calling gf mk a) rfl q.2.2.1, q.2.2.2⟩
theorem ex_gi {ws : List Cond} (h : ∀ w ∈ ws, w ∈ ex_wall) : GoodIn ex_wall ws := fun w hw => ⟨h w hw, ex_wall_good w (h w hw)⟩
section EXC
variable {p : Program} {l : Launch} {e : Env} {R : Room} {s : State} {m : MethodId} {args : Array Value} {below : List Frame} {meth : Method} {c : Code} {H : Heap} {locs : List Loc} {cells slots : Nat} {Q : State → Prop}
variable {cc : ByteArray} {pc : Nat} {ls : Array Slot} {rest : List Value} {g : ex_G} {o : ex_P} {nL n0 s0 : Nat} {rt : Option FieldType} {own mn : String} {h : ex_H}
/-- an instruction that returns -/
theorem ex_returns (C : ex_Cx g o p s m args meth c cc nL rt own mn R) {ins : Instr} {x y z nx : Nat} {lv : ex_V} {st : List Value} {r : Option Value} {h' : ex_H} (hd : ex_dec cc pc (ins, x, y, z, nx)) (hs : ex_step g nL rt (ins, x, y, z, nx) pc lv st h = some (.inr (.inl (r, h'))))
    (hA : ex_At g o nL n0 s0 s.heap (pc, lv, st, h) H ls locs cells slots) : h' = h ∧ W p l e R s m args below meth c H locs cells slots (MQ below (ex_Qc g o r h') args s cells slots (ex_A o)) (F0 m pc ls (st.map (ex_cv g o))) := by
  obtain ⟨hx, hb, hml, hown, hts, hK, hX, hlocks, hr, hmn, hco, hBs, hRf, hRl⟩ := C
  obtain ⟨hl, hW, hS, hc, hsl⟩ := id hA
  rcases ex_kind hs with ⟨f, e1, -⟩ | ⟨r1, e1, hR⟩ | ⟨k, as, f, e1, -⟩
  · cases e1
  · cases e1
    refine ⟨rfl, ?_⟩
    cases ins with
    | ireturn =>
      obtain ⟨v, ty, hty, rfl, hn, e1⟩ := ex_ret_v (show ex_ret rt st h = some (.inr (.inl (r, h))) from hs)
      cases e1
      subst hty
      exact W.zret hx hb hr hn (fun t ht _ => ⟨rfl, by rw [ht]; exact hW, hS.F ht⟩) hS.2.2 hd.1 hlocks
    | lreturn =>
      obtain ⟨v, hty, rfl, e1⟩ := ex_lret_v (show ex_lret rt st h = some (.inr (.inl (r, h))) from hs)
      cases e1
      subst hty
      exact W.lret hx hb hr (fun t ht _ => ⟨rfl, by rw [ht]; exact hW, hS.F ht⟩) hS.2.2 hd.1 hlocks
    | areturn =>
      obtain ⟨v, Cn, hty, rfl, e1⟩ := ex_aret_v (show ex_aret rt st h = some (.inr (.inl (r, h))) from hs)
      cases e1
      subst hty
      exact W.aret hx hb hr (Or.inl ⟨_, rfl⟩) (Or.inr ⟨_, rfl⟩) (fun t ht _ => ⟨rfl, by rw [ht]; exact hW, hS.F ht⟩) hS.2.2 hd.1 hlocks
    | return_ =>
      obtain ⟨hty, rfl, e1⟩ := ex_vret_v (show ex_vret rt st h = some (.inr (.inl (r, h))) from hs)
      cases e1
      subst hty
      exact W.vret hx hb hr (fun t ht _ => ⟨rfl, by rw [ht]; exact hW, hS.F ht⟩) hS.2.2 hd.1 hlocks
    | _ => exact absurd rfl hR
  · cases e1
theorem ex_back {mc ms : Nat} {r : Option Value} {h' : ex_H} {st0 : List Value} {a : Array Value} (hr : va_Run p l e R s m args below meth c H locs cells slots mc ms (F0 m pc ls st0) rest (ex_Qc g o r h' a) (ex_A o)) (hS : va_S (ex_A o) s.heap H locs)
    (kk : ∀ (H1 : Heap) (locs1 : List Loc), ex_Wd g o h' H1 → va_S (ex_A o) s.heap H1 locs1 → W p l e R s m args below meth c H1 locs1 (cells + mc) (slots + ms) Q (F0 m (pc + 3) ls ((r.map (ex_cv g o)).toList ++ rest))) : W p l e R s m args below meth c H locs cells slots Q (F0 m pc ls st0) := by
  intro T hT X
  obtain ⟨v, st₀, t, T', L, h0, X', hL, e1, e2, ⟨hv, hWd, hz, hk⟩, st⟩ := hr T hT X
  cases hv
  rw [h0] at hz hk
  obtain ⟨t2, a1, b1⟩ := kk T'.heap (locs ++ L) (by rw [e1]; exact hWd) ⟨Nat.le_trans hS.1 (by rw [e1]; exact hz), fun q h1 h2 => by rw [e1, hk q (Nat.lt_of_lt_of_le h1 hS.1) h2]; exact hS.2.1 q h1 h2, fun q hq => by
      rcases List.mem_append.mp hq with h | h
      · exact hS.2.2 q h
      · exact hL q h⟩ T' rfl X'
  exact ⟨t2, st t2 a1, b1⟩
theorem ex_pre (C : ex_Cx g o p s m args meth c cc nL rt own mn R) (hW : ex_Wd g o h H) (hS : va_S (ex_A o) s.heap H locs) (av : List Value) : ∀ U : State, U.heap = H → s.WarmedH U.vm → va_Pc av (ex_St g o h) av.toArray U := by
  obtain ⟨hx, hb, hml, hown, hts, hK, hX, hlocks, hr, hmn, hco, hBs, hRf, hRl⟩ := C
  intro U hU hWm
  exact ⟨rfl, va_K.moved hWm.alike hK, by rw [hU]; exact (hX.kept hS.2.1).warm hWm, by rw [hU]; exact hW⟩
theorem ex_stk (A : List Value) (b : Nat) (r : List Value) : (A ++ Value.ref b :: r).map (ex_cv g o) = ((A.reverse).map (ex_cv g o)).reverse ++ Value.ref (ex_ad g o b) :: r.map (ex_cv g o) := by
  rw [List.map_append, List.map_cons, List.map_reverse, List.reverse_reverse]
  rfl
theorem ex_stk0 (A r : List Value) : (A ++ r).map (ex_cv g o) = ((A.reverse).map (ex_cv g o)).reverse ++ r.map (ex_cv g o) := by
  rw [List.map_append, List.map_reverse, List.reverse_reverse]
/-- an instruction that calls -/
theorem ex_calls {P : Nat → Option ex_M} {d : Nat} (C : ex_Cx g o p s m args meth c cc nL rt own mn R) {ins : Instr} {x y z nx k : Nat} {lv : ex_V} {st as : List Value} {f : ex_F} {r : Option Value} {h' : ex_H} (hP : ∀ k M, P k = some M → ex_okM g P M) (hd : ex_dec cc pc (ins, x, y, z, nx)) (hk : ex_lk g P own mn pc (ins, x, y, z, nx)) (hs : ex_step g nL rt (ins, x, y, z, nx) pc lv st h = some (.inr (.inr (k, as, f))))
    (hA : ex_At g o nL n0 s0 s.heap (pc, lv, st, h) H ls locs cells slots) (hf : d + 1 ≤ R.frames) (hlo : 60 * (d + 1) ≤ R.locals) (hmc : h.1.length ≤ h'.1.length) (hms : h.2 ≤ h'.2) (hm1 : h'.1.length ≤ R.cells + n0) (hm2 : h'.2 ≤ R.slots + s0)
    (hM : ∀ M, P k = some M → Met l M.1 (ex_ws M) (ex_rm d (h'.1.length - h.1.length) (h'.2 - h.2)) (va_Pc (as.map (ex_cv g o)) (ex_St g o h)) (ex_Qc g o r h') (h'.1.length - h.1.length) (h'.2 - h.2) (ex_A o))
    (kk : ∀ (H1 : Heap) (locs1 : List Loc) (cells1 slots1 : Nat), ex_At g o nL n0 s0 s.heap (f.1, f.2.1, r.toList ++ f.2.2.1, h') H1 ls locs1 cells1 slots1 → W p l e R s m args below meth c H1 locs1 cells1 slots1 Q (F0 m f.1 ls ((r.toList ++ f.2.2.1).map (ex_cv g o)))) :
    W p l e R s m args below meth c H locs cells slots Q (F0 m pc ls (st.map (ex_cv g o))) := by
  have C0 := C
  obtain ⟨hx, hb, hml, hown, hts, hK, hX, hlocks, hr, hmn, hco, hBs, hRf, hRl⟩ := C
  obtain ⟨hl, hW, hS, hc, hsl⟩ := id hA
  have hc : cells + n0 = h.1.length := hc
  have hsl : slots + s0 = h.2 := hsl
  have hcells : cells + (h'.1.length - h.1.length) ≤ R.cells ∧ slots + (h'.2 - h.2) ≤ R.slots := ⟨by omega, by omega⟩
  have fin : f.1 = pc + 3 → f.2.1 = lv → ∀ (H1 : Heap) (locs1 : List Loc), ex_Wd g o h' H1 → va_S (ex_A o) s.heap H1 locs1 → W p l e R s m args below meth c H1 locs1 (cells + (h'.1.length - h.1.length)) (slots + (h'.2 - h.2)) Q (F0 m (pc + 3) ls ((r.map (ex_cv g o)).toList ++ f.2.2.1.map (ex_cv g o))) := by
    intro e1 e2 H1 locs1 hW1 hS1
    have h1 := kk H1 locs1 (cells + (h'.1.length - h.1.length)) (slots + (h'.2 - h.2)) ⟨by rw [e2]; exact hl, hW1, hS1, by show _ + _ + n0 = h'.1.length; omega, by show _ + _ + s0 = h'.2; omega⟩
    rw [e1, List.map_append] at h1
    cases r <;> exact h1
  have hrm : (ex_rm d (h'.1.length - h.1.length) (h'.2 - h.2)).frames + 1 ≤ R.frames := hf
  have S : CallFix p m c cc nL s args ex_wall own := ⟨hx, hb, hml, hown, hts⟩
  rcases ex_kind hs with ⟨f1, e1, -⟩ | ⟨r1, e1, -⟩ | ⟨k1, as1, f1, e1, -, hC⟩
  · cases e1
  · cases e1
  cases e1
  cases ins with
  | invokevirtual i =>
    obtain ⟨hdg, hnx⟩ : decode cc pc = .ok (.invokevirtual i, 3) ∧ nx = pc + 3 := hd
    subst hnx
    obtain ⟨A, b, rr, fs, rfl, hn, hg, hw, e1⟩ := ex_callV_v (show ex_callV g x y z (pc + 3) lv st h = some (.inr (.inr (k, as, f))) from hs)
    cases e1
    obtain ⟨M, hPM, hcls, k1, k2, k3, k4⟩ : ∃ M : ex_M, P x = some M ∧ M.1.cls = ex_cn z ∧ Jvm.Cond.methodLink own i M.1 ∈ ex_wall ∧ Jvm.Cond.instanceMethod M.1 ∈ ex_wall ∧ Jvm.Cond.selects M.1.cls M.1 M.1 ∈ ex_wall ∧ (parseMethodDescriptor M.1.desc).map (fun d => d.parameters.length) = some y := hk
    obtain ⟨-, m2, m3, m4, m5, -⟩ := hP x M hPM
    have hrecv : ∃ cellB : Cell, H[ex_ad g o b]? = some cellB ∧ cellB.vm.isStatics = false ∧ s.vm.findClass M.1.cls = some cellB.cls := by
      rw [hcls]
      rcases ex_get_spec hg with ⟨hlo1, hxt⟩ | hg
      · have e1 : ex_ad g o b = o.2.2.1 b := by unfold ex_ad; rw [if_pos hlo1]
        rw [e1]
        obtain ⟨hci, hO, -⟩ := hX.1 b _ hlo1 hxt
        obtain ⟨cell, g1, g2, g3, -⟩ := hO.kept hS.2.1
        subst hci
        exact ⟨cell, g1, g2, g3⟩
      · have hat := hW.at hg
        obtain ⟨r0, hc0, -⟩ := id hat
        rw [ex_cn_of hc0]
        exact va_recv hK (ex_one hat) hc0 (q0 := 0) rfl
    rw [ex_stk]
    exact ex_back (va_runV (As := (A.reverse).map (ex_cv g o)) (rest := rr.map (ex_cv g o)) S (hM M hPM)
      (cwV (C := M.1.cls) y hts (ex_gi (fun w hw => by
        unfold wsV ex_ws at hw
        simp only [List.mem_append, List.mem_cons, List.not_mem_nil, or_false] at hw
        rcases hw with (rfl | rfl | rfl | rfl) | rfl | hw
        · exact k1
        · exact k2
        · exact k3
        · exact m3
        · exact m4
        · exact hw)) rfl rfl rfl ⟨rfl, m2.1, m2.2, k4⟩ ⟨hrm, by show 8 + (M.2.2.1 + 11) + 60 * d ≤ R.locals; omega⟩)
      ⟨ex_blind, hrecv, ex_pre C0 hW hS _⟩ rfl (by rw [List.length_map, List.length_reverse]; exact hn) hl.1 rfl (lv_room (by rw [ex_wm]; exact hw)) hdg hcells) hS (fin rfl rfl)
  | invokespecial i =>
    obtain ⟨hdg, hnx⟩ : decode cc pc = .ok (.invokespecial i, 3) ∧ nx = pc + 3 := hd
    subst hnx
    rcases (show (x = 1000000 ∧ Jvm.Cond.methodLink own i objectInit ∈ ex_wall ∧ Jvm.Cond.instanceMethod objectInit ∈ ex_wall ∧ Jvm.Cond.code objectInit ⟨#[0xb1]⟩ 1 none ∈ ex_wall) ∨ (¬ x = 1000000 ∧ ∃ M : ex_M, P x = some M ∧ M.1.name = "<init>" ∧ M.2.2.2.1 = none ∧ Jvm.Cond.methodLink own i M.1 ∈ ex_wall ∧ Jvm.Cond.instanceMethod M.1 ∈ ex_wall ∧ (parseMethodDescriptor M.1.desc).map (fun d => d.parameters.length) = some y) from hk) with ⟨hx0, -⟩ | ⟨hx0, M, hPM, k0, k5, k1, k2, k4⟩
    · subst hx0
      obtain ⟨_, _, _, _, e1⟩ := ex_callI_go (show ex_callI 1000000 y (pc + 3) lv st h = some (.inr (.inr (k, as, f))) from hs)
      cases e1
    · obtain ⟨A, b, rr, rfl, hn, hw, e1⟩ := ex_callI_v hx0 (show ex_callI x y (pc + 3) lv st h = some (.inr (.inr (k, as, f))) from hs)
      cases e1
      obtain ⟨-, m2, m3, m4, m5, -⟩ := hP x M hPM
      rw [ex_stk]
      refine ex_back (va_runI (As := (A.reverse).map (ex_cv g o)) (rest := rr.map (ex_cv g o)) S (hM M hPM)
        (cwI (maxL := M.2.2.1) (bytes := M.2.1) (ws' := ex_wall) y hts (ex_gi (fun w hw => by
          unfold ex_ws at hw
          rcases List.mem_cons.mp hw with rfl | hw
          · exact m4
          · exact hw)) (by unfold ex_ws; rw [k5]) rfl rfl (hts _ m3) (hts _ k1) (hts _ k2) k0 ⟨m2.1, m2.2, k4⟩ ⟨hrm, by show 8 + (M.2.2.1 + 11) + 60 * d ≤ R.locals; omega⟩)
        ⟨ex_blind, ex_pre C0 hW hS _⟩ rfl (by rw [List.length_map, List.length_reverse]; exact hn) hl.1 rfl (lv_room (by rw [ex_wm]; exact hw)) hdg hcells) hS (fin rfl rfl)
  | invokestatic i =>
    obtain ⟨hdg, hnx⟩ : decode cc pc = .ok (.invokestatic i, 3) ∧ nx = pc + 3 := hd
    subst hnx
    rcases (show (x = 1000000 ∧ Jvm.Cond.methodLink own i arraycopyName ∈ ex_wall ∧ Jvm.Cond.native arraycopyName ∈ ex_wall ∧ Jvm.Cond.static arraycopyName ∈ ex_wall ∧ Jvm.Cond.initialized "java/lang/System" ∈ ex_wall) ∨ (x = 1000001 ∧ Jvm.Cond.methodLink own i Lib.Math.max.name ∈ ex_wall ∧ Jvm.Cond.static Lib.Math.max.name ∈ ex_wall ∧ Jvm.Cond.initialized "java/lang/Math" ∈ ex_wall ∧ Jvm.Cond.code Lib.Math.max.name Lib.Math.max.code 2 (some .int) ∈ ex_wall) ∨ (x = 1000002 ∧ Jvm.Cond.methodLink own i Lib.Math.min.name ∈ ex_wall ∧ Jvm.Cond.static Lib.Math.min.name ∈ ex_wall ∧ Jvm.Cond.initialized "java/lang/Math" ∈ ex_wall ∧ Jvm.Cond.code Lib.Math.min.name Lib.Math.min.code 2 (some .int) ∈ ex_wall) ∨ (x < 1000000 ∧ ∃ M : ex_M, P x = some M ∧ Jvm.Cond.methodLink own i M.1 ∈ ex_wall ∧ Jvm.Cond.static M.1 ∈ ex_wall ∧ (parseMethodDescriptor M.1.desc).map (fun d => d.parameters.length) = some y) from hk) with ⟨hx0, -⟩ | ⟨hx0, -⟩ | ⟨hx0, -⟩ | ⟨hx0, M, hPM, k1, k2, k4⟩
    · subst hx0
      obtain ⟨_, _, _, _, _, _, _, _, _, _, _, _, _, _, _, _, _, _, _, _, e1⟩ := ex_cpy_v (ex_callS_go (show ex_callS g 1000000 y (pc + 3) lv st h = some (.inr (.inr (k, as, f))) from hs))
      cases e1
    · subst hx0
      obtain ⟨_, _, _, _, _, ⟨_, e1⟩ | ⟨_, e1⟩⟩ := ex_math_v (ex_callS_math (by decide) (show ex_callS g 1000001 y (pc + 3) lv st h = some (.inr (.inr (k, as, f))) from hs)) <;> cases e1
    · subst hx0
      obtain ⟨_, _, _, _, _, ⟨_, e1⟩ | ⟨_, e1⟩⟩ := ex_math_v (ex_callS_math (by decide) (show ex_callS g 1000002 y (pc + 3) lv st h = some (.inr (.inr (k, as, f))) from hs)) <;> cases e1
    · obtain ⟨A, rr, rfl, hn, hw, e1⟩ := ex_callS_v hx0 (show ex_callS g x y (pc + 3) lv st h = some (.inr (.inr (k, as, f))) from hs)
      cases e1
      obtain ⟨-, m2, m3, m4, m5, -⟩ := hP x M hPM
      rw [ex_stk0]
      exact ex_back (va_runS (As := (A.reverse).map (ex_cv g o)) (rest := rr.map (ex_cv g o)) S (hM M hPM)
        (va_cwS y hts (ex_gi (fun w hw => by
          unfold va_wsS ex_ws at hw
          simp only [List.mem_append, List.mem_cons, List.not_mem_nil, or_false] at hw
          rcases hw with (rfl | rfl | rfl) | rfl | hw
          · exact k1
          · exact k2
          · exact m3
          · exact m4
          · exact hw)) rfl rfl rfl ⟨m2.1, m2.2, k4⟩ ⟨hrm, by show 8 + (M.2.2.1 + 11) + 60 * d ≤ R.locals; omega⟩)
        ⟨ex_blind, ex_pre C0 hW hS _⟩ rfl (by rw [List.length_map, List.length_reverse]; exact hn) hl.1 rfl (lv_room (by rw [ex_wm]; exact hw)) hdg hcells) hS (fin rfl rfl)
  | _ => exact absurd rfl hC
end EXC
/-- what is known of calls: they don't shrink the heap, and they are contracts -/
def ex_callOk (g : ex_G) (o : ex_P) (P : Nat → Option ex_M) (l : Launch) (d : Nat) (call : Nat → List Value → ex_H → Option (Option Value × ex_H)) : Prop :=
  ∀ k as h r h', call k as h = some (r, h') → (h.1.length ≤ h'.1.length ∧ h.2 ≤ h'.2) ∧
    ∀ M, P k = some M → Met l M.1 (ex_ws M) (ex_rm d (h'.1.length - h.1.length) (h'.2 - h.2)) (va_Pc (as.map (ex_cv g o)) (ex_St g o h)) (ex_Qc g o r h') (h'.1.length - h.1.length) (h'.2 - h.2) (ex_A o)
theorem ex_loop_mono {g : ex_G} {call : Nat → List Value → ex_H → Option (Option Value × ex_H)} (hcall : ∀ k as h r h', call k as h = some (r, h') → h.1.length ≤ h'.1.length ∧ h.2 ≤ h'.2) {nL : Nat} {rt : Option FieldType} {cd : List (List (Option ex_I))} :
    ∀ (n : Nat) (f : ex_F) (r : Option Value) (h' : ex_H), ex_loop g call nL rt cd n f = some (r, h') → f.2.2.2.1.length ≤ h'.1.length ∧ f.2.2.2.2 ≤ h'.2 := by
  intro n
  induction n with
  | zero => intro f r h' hq; cases hq
  | succ n ih =>
    intro f r h' hq
    unfold ex_loop at hq
    cases he : ex_cd cd f.1 with
    | none => rw [he] at hq; cases hq
    | some ei =>
      rw [he] at hq
      simp only at hq
      obtain ⟨ins, x, y, z, nx⟩ := ei
      cases hs : ex_step g nL rt (ins, x, y, z, nx) f.1 f.2.1 f.2.2.1 f.2.2.2 with
      | none => rw [hs] at hq; cases hq
      | some q =>
        rw [hs] at hq
        rcases ex_kind hs with ⟨f1, rfl, h1, h2⟩ | ⟨r1, rfl, -⟩ | ⟨k, as, f1, rfl, h1, -⟩
        · obtain ⟨h3, h4⟩ := ih f1 r h' hq
          exact ⟨Nat.le_trans h1 h3, Nat.le_trans h2 h4⟩
        · cases hq
          exact ⟨Nat.le_refl _, Nat.le_refl _⟩
        · simp only at hq
          rw [h1] at hq
          cases hcl : call k as f.2.2.2 with
          | none => rw [hcl] at hq; cases hq
          | some rh =>
            obtain ⟨rv, h2⟩ := rh
            rw [hcl] at hq
            obtain ⟨g1, g2⟩ := hcall _ _ _ _ _ hcl
            cases rv with
            | none =>
              obtain ⟨h3, h4⟩ := ih _ r h' hq
              exact ⟨Nat.le_trans g1 h3, Nat.le_trans g2 h4⟩
            | some v =>
              obtain ⟨h3, h4⟩ := ih _ r h' hq
              exact ⟨Nat.le_trans g1 h3, Nat.le_trans g2 h4⟩
theorem ex_loop_ok {p : Program} {l : Launch} {e : Env} {R : Room} {s : State} {m : MethodId} {args : Array Value} {below : List Frame} {meth : Method} {c : Code} {cc : ByteArray} {g : ex_G} {o : ex_P} {nL n0 s0 : Nat} {rt : Option FieldType} {own mn : String} {P : Nat → Option ex_M} {d : Nat} {call : Nat → List Value → ex_H → Option (Option Value × ex_H)} {cd : List (List (Option ex_I))} {r : Option Value} {h' : ex_H}
    (C : ex_Cx g o p s m args meth c cc nL rt own mn R) (hP : ∀ k M, P k = some M → ex_okM g P M) (hcd : ∀ (pc : Nat) (e : ex_I), ex_cd cd pc = some e → ex_dec cc pc e ∧ ex_lk g P own mn pc e) (hcall : ex_callOk g o P l d call) (hf : d + 1 ≤ R.frames) (hlo : 60 * (d + 1) ≤ R.locals) (hRc : R.cells + n0 = h'.1.length) (hRs : R.slots + s0 = h'.2) :
    ∀ (n : Nat) (f : ex_F), ex_loop g call nL rt cd n f = some (r, h') → ∀ (H : Heap) (ls : Array Slot) (locs : List Loc) (cells slots : Nat), ex_At g o nL n0 s0 s.heap f H ls locs cells slots →
      W p l e R s m args below meth c H locs cells slots (MQ below (ex_Qc g o r h') args s R.cells R.slots (ex_A o)) (F0 m f.1 ls (f.2.2.1.map (ex_cv g o))) := by
  have hmono := ex_loop_mono (g := g) (nL := nL) (rt := rt) (cd := cd) (fun k as h r h' q => (hcall k as h r h' q).1)
  intro n
  induction n with
  | zero => intro f hq; cases hq
  | succ n ih =>
    intro f hq H ls locs cells slots hA
    unfold ex_loop at hq
    cases he : ex_cd cd f.1 with
    | none => rw [he] at hq; cases hq
    | some ei =>
      rw [he] at hq
      simp only at hq
      obtain ⟨hd, hk⟩ := hcd _ _ he
      obtain ⟨ins, x, y, z, nx⟩ := ei
      cases hs : ex_step g nL rt (ins, x, y, z, nx) f.1 f.2.1 f.2.2.1 f.2.2.2 with
      | none => rw [hs] at hq; cases hq
      | some q =>
        rw [hs] at hq
        rcases ex_kind hs with ⟨f1, rfl, h1, h2⟩ | ⟨r1, rfl, -⟩ | ⟨k, as, f1, rfl, h1, -⟩
        · obtain ⟨h3, h4⟩ := hmono n f1 r h' hq
          exact ex_next C hd hk hs hA (by omega) (by omega) (fun H1 ls1 locs1 cells1 slots1 hA1 => ih f1 hq H1 ls1 locs1 cells1 slots1 hA1)
        · obtain ⟨e1, hw⟩ := ex_returns (l := l) (e := e) (below := below) C hd hs hA
          cases hq
          obtain ⟨-, -, -, hc, hsl⟩ := hA
          rw [show R.cells = cells by omega, show R.slots = slots by omega]
          exact hw
        · simp only at hq
          rw [h1] at hq
          cases hcl : call k as f.2.2.2 with
          | none => rw [hcl] at hq; cases hq
          | some rh =>
            obtain ⟨rv, h2⟩ := rh
            rw [hcl] at hq
            obtain ⟨⟨g1, g2⟩, hM⟩ := hcall _ _ _ _ _ hcl
            cases rv with
            | none =>
              obtain ⟨h3, h4⟩ := hmono n _ r h' hq
              have h3 : h2.1.length ≤ h'.1.length := h3
              have h4 : h2.2 ≤ h'.2 := h4
              exact ex_calls C hP hd hk hs hA hf hlo g1 g2 (by omega) (by omega) hM (fun H1 locs1 cells1 slots1 hA1 => ih _ hq H1 ls locs1 cells1 slots1 hA1)
            | some v =>
              obtain ⟨h3, h4⟩ := hmono n _ r h' hq
              have h3 : h2.1.length ≤ h'.1.length := h3
              have h4 : h2.2 ≤ h'.2 := h4
              exact ex_calls C hP hd hk hs hA hf hlo g1 g2 (by omega) (by omega) hM (fun H1 locs1 cells1 slots1 hA1 => ih _ hq H1 ls locs1 cells1 slots1 hA1)
/-- THE CONTRACT OF A RUN: whatever the interpreter's run of a method ends with, the machine's does -/
theorem ex_run_ok {g : ex_G} {o : ex_P} {P : Nat → Option ex_M} {N : Nat} (hP : ∀ k M, P k = some M → ex_okM g P M) (hco : ex_clsOk) (l : Launch) : ∀ d : Nat, ex_callOk g o P l d (ex_run g P N d) := by
  intro d
  induction d with
  | zero => intro k as h r h' hq; cases hq
  | succ d ih =>
    intro k as h r h' hq
    unfold ex_run at hq
    cases hk : P k with
    | none => rw [hk] at hq; cases hq
    | some M =>
      rw [hk] at hq
      simp only at hq
      cases hw : Nat.ble (ex_w as) M.2.2.1 with
      | false => rw [hw] at hq; cases hq
      | true =>
        rw [hw] at hq
        simp only [cond_true] at hq
        have hmono := ex_loop_mono (fun k as h r h' q => (ih k as h r h' q).1) N _ r h' hq
        refine ⟨hmono, fun M' hM' => ?_⟩
        cases hM'
        obtain ⟨m1, m2, m3, m4, m5, m6⟩ := hP k M hk
        have h3 : h.1.length ≤ h'.1.length := hmono.1
        have h4 : h.2 ≤ h'.2 := hmono.2
        refine Met.ofW (cc := M.2.1) (maxL := M.2.2.1) (ret := M.2.2.2.1) m1 rfl ?_
        intro p e s m args below meth c s₁ B hml hv
        obtain ⟨rfl, hK, hX, hWd⟩ := hv
        have hts := atoms_spec (ws := ex_ws M) B.pre
        have hown : s.vm.findClass M.1.cls = some m.cls := findClass_of_methodNamed B.named
        rw [lg_entry_eq]
        have hl := lv_entry (as.map (ex_cv g o)) (n := M.2.2.1) (by rw [ex_sl_len]; show ((as.map (ex_cv g o)).map fun v => v.category).sum ≤ _; rw [ex_wm]; exact Nat.le_of_ble_eq_true hw)
        generalize (lg_sl (as.map (ex_cv g o)) ++ List.replicate (M.2.2.1 - (lg_sl (as.map (ex_cv g o))).length) Slot.unset).toArray = ls at hl ⊢
        rw [ex_lm_args] at hl
        have C : ex_Cx g o p s m (as.map (ex_cv g o)).toArray meth c M.2.1 M.2.2.1 M.2.2.2.1 M.1.cls M.1.name (ex_rm (d + 1) (h'.1.length - h.1.length) (h'.2 - h.2)) :=
          ⟨B.exec, B.bytes, hml, hown, fun w hw => hts w (List.mem_cons_of_mem _ hw), hK, hX, B.notSynchronized, B.returns, fun q => (name_of_methodNamed B.named B.method).1.trans q, hco, by rw [hWd.1]; exact Nat.le_add_right _ _, Nat.succ_le_succ (Nat.zero_le _), by show 60 ≤ 60 * (d + 1); omega⟩
        exact ex_loop_ok (n0 := h.1.length) (s0 := h.2) C hP m6 ih (Nat.le_refl _) (Nat.le_refl _) (by show (h'.1.length - h.1.length) + _ = _; omega) (by show (h'.2 - h.2) + _ = _; omega) N (0, lv_args 0 as, [], h) hq s.heap ls [] 0 0
          ⟨hl, hWd, va_S.rf, Nat.zero_add _, Nat.zero_add _⟩

