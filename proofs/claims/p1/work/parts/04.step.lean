/-! ===== one instruction: what the interpreter does, the machine does (by the kit's rows) ===== -/
def ex_ln (i : Instr) : Nat := match i with
  | .bipush _ | .ldc _ | .iload _ | .lload _ | .aload _ | .istore _ | .lstore _ | .astore _ | .newarray _ => 2
  | .sipush _ | .ldc_w _ | .ldc2_w _ | .iinc _ _ | .ifCond _ _ | .if_icmp _ _ | .goto _ | .getfield _ | .putfield _ | .getstatic _ | .new _ | .anewarray _ | .invokevirtual _ | .invokespecial _ | .invokestatic _ => 3
  | _ => 1
/-- the bytes at a place are this instruction -/
def ex_dec (cc : ByteArray) (pc : Nat) (e : ex_I) : Prop := match e with
  | (ins, _, _, _, nx) => match ins with
    | .tableswitch _ _ _ _ => ∃ len, decode cc pc = .ok (ins, len)
    | .lookupswitch _ ps => (∃ len, decode cc pc = .ok (ins, len)) ∧ (ps.toList.zip (ps.toList.drop 1)).all (fun (a, next) => a.1 < next.1) = true
    | _ => decode cc pc = .ok (ins, ex_ln ins) ∧ nx = pc + ex_ln ins
/-- what an instruction names is what its numbers say -/
def ex_lk (g : ex_G) (P : Nat → Option ex_M) (own mn : String) (pc : Nat) (e : ex_I) : Prop := match e with
  | (ins, x, y, z, _) => match ins with
    | .ldc i | .ldc_w i => (y = 0 ∧ Jvm.Cond.constant own i (Int32.ofNat x) ∈ ex_wall) ∨ (y = 1 ∧ ∃ tx, (own, i, x, tx) ∈ g.2.2.1)
    | .ldc2_w i => Jvm.Cond.constantLong own i (Int64.ofNat x) ∈ ex_wall
    | .ifCond _ off | .if_icmp _ off | .goto off => (pc : Int) + off = (x : Int)
    | .getfield i => (∀ r : vw_C, ex_cl[x]? = some r → y < r.2.2) ∧ Jvm.Cond.fieldLink own i (ex_fd x y).1 (ex_fd x y).2.1 (ex_fd x y).2.2.1 ∈ ex_wall
    | .putfield i => ∃ r : vw_C, ex_cl[x]? = some r ∧ y < r.2.2 ∧ Jvm.Cond.fieldLink own i (r.2.1 y).1 (r.2.1 y).2.1 (r.2.1 y).2.2.1 ∈ ex_wall ∧ ((r.2.1 y).2.2.2 = false ∨ ((r.2.1 y).2.2.2 = true ∧ mn = "<init>" ∧ (r.2.1 y).1 = own))
    | .getstatic i => ∃ q ∈ g.2.2.2, Jvm.Cond.fieldLink own i q.1 q.2.1 q.2.2.1 ∈ ex_wall ∧ q.2.2.2 = (bif Nat.beq y 0 then Value.int (Int32.ofNat x) else bif Nat.beq y 1 then Value.ref x else Value.retAddr 0)
    | .new i => ∃ r : vw_C, ex_cl[x]? = some r ∧ Jvm.Cond.classLink own i r.1 ∈ ex_wall ∧ Jvm.Cond.instantiable r.1 r.2.2 ∈ ex_wall ∧ Jvm.Cond.initialized r.1 ∈ ex_wall
    | .newarray t => Jvm.Cond.arrayClass (newarray.typeOf t) ∈ ex_wall
    | .anewarray i => Jvm.Cond.classLink own i "java/lang/String" ∈ ex_wall
    | .invokevirtual i => ∃ M : ex_M, P x = some M ∧ M.1.cls = ex_cn z ∧ Jvm.Cond.methodLink own i M.1 ∈ ex_wall ∧ Jvm.Cond.instanceMethod M.1 ∈ ex_wall ∧ Jvm.Cond.selects M.1.cls M.1 M.1 ∈ ex_wall ∧ (parseMethodDescriptor M.1.desc).map (fun d => d.parameters.length) = some y
    | .invokespecial i => (x = 1000000 ∧ Jvm.Cond.methodLink own i objectInit ∈ ex_wall ∧ Jvm.Cond.instanceMethod objectInit ∈ ex_wall ∧ Jvm.Cond.code objectInit ⟨#[0xb1]⟩ 1 none ∈ ex_wall) ∨
        (¬ x = 1000000 ∧ ∃ M : ex_M, P x = some M ∧ M.1.name = "<init>" ∧ M.2.2.2.1 = none ∧ Jvm.Cond.methodLink own i M.1 ∈ ex_wall ∧ Jvm.Cond.instanceMethod M.1 ∈ ex_wall ∧ (parseMethodDescriptor M.1.desc).map (fun d => d.parameters.length) = some y)
    | .invokestatic i => (x = 1000000 ∧ Jvm.Cond.methodLink own i arraycopyName ∈ ex_wall ∧ Jvm.Cond.native arraycopyName ∈ ex_wall ∧ Jvm.Cond.static arraycopyName ∈ ex_wall ∧ Jvm.Cond.initialized "java/lang/System" ∈ ex_wall) ∨
        (x = 1000001 ∧ Jvm.Cond.methodLink own i Lib.Math.max.name ∈ ex_wall ∧ Jvm.Cond.static Lib.Math.max.name ∈ ex_wall ∧ Jvm.Cond.initialized "java/lang/Math" ∈ ex_wall ∧ Jvm.Cond.code Lib.Math.max.name Lib.Math.max.code 2 (some .int) ∈ ex_wall) ∨ (x = 1000002 ∧ Jvm.Cond.methodLink own i Lib.Math.min.name ∈ ex_wall ∧ Jvm.Cond.static Lib.Math.min.name ∈ ex_wall ∧ Jvm.Cond.initialized "java/lang/Math" ∈ ex_wall ∧ Jvm.Cond.code Lib.Math.min.name Lib.Math.min.code 2 (some .int) ∈ ex_wall) ∨ (x < 1000000 ∧ ∃ M : ex_M, P x = some M ∧ Jvm.Cond.methodLink own i M.1 ∈ ex_wall ∧ Jvm.Cond.static M.1 ∈ ex_wall ∧ (parseMethodDescriptor M.1.desc).map (fun d => d.parameters.length) = some y)
    | _ => True
/-- a method's row is true of the tables -/
def ex_okM (g : ex_G) (P : Nat → Option ex_M) (M : ex_M) : Prop :=
  plainName M.1.cls = true ∧ (M.1.cls ≠ "java/lang/invoke/MethodHandle" ∧ M.1.cls ≠ "java/lang/invoke/VarHandle") ∧ Jvm.Cond.initialized M.1.cls ∈ ex_wall ∧ Jvm.Cond.code M.1 M.2.1 M.2.2.1 M.2.2.2.1 ∈ ex_wall ∧ M.2.2.1 ≤ 41 ∧
  ∀ (pc : Nat) (e : ex_I), ex_cd M.2.2.2.2 pc = some e → ex_dec M.2.1 pc e ∧ ex_lk g P M.1.cls M.1.name pc e
/-- what holds at a place of a frame -/
def ex_At (g : ex_G) (o : ex_P) (nL n0 s0 : Nat) (H0 : Heap) (f : ex_F) (H : Heap) (ls : Array Slot) (locs : List Loc) (cells slots : Nat) : Prop :=
  lv_has ls nL (ex_lm g o f.2.1) ∧ ex_Wd g o f.2.2.2 H ∧ va_S (ex_A o) H0 H locs ∧ cells + n0 = f.2.2.2.1.length ∧ slots + s0 = f.2.2.2.2
/-- what is fixed in a frame -/
def ex_Cx (g : ex_G) (o : ex_P) (p : Program) (s : State) (m : MethodId) (args : Array Value) (meth : Method) (c : Code) (cc : ByteArray) (nL : Nat) (rt : Option FieldType) (own mn : String) (R : Room) : Prop :=
  p.tables.exec = Jvm.exec ∧ c.code = cc ∧ c.maxLocals = nL ∧ s.vm.findClass own = some m.cls ∧ (∀ w ∈ ex_wall, w.before args s = true) ∧ va_K o.1 ex_cl (ex_tys o) s ∧ ex_X g o s s.heap ∧ meth.locks = false ∧ meth.sig.returnType = rt ∧ (mn = "<init>" → meth.name = "<init>") ∧ ex_clsOk ∧ o.2.2.2 ≤ s.heap.size ∧ 1 ≤ R.frames ∧ 60 ≤ R.locals

section EXINV
variable {nx : Nat} {lv : ex_V} {st : List Value} {h : ex_H} {o : ex_O}
theorem ex_ii_v {f : Int32 → Int32 → Int32} (q : ex_ii f nx lv st h = some o) : ∃ x y r, st = .int y :: .int x :: r ∧ o = .inl (nx, lv, .int (f x y) :: r, h) := by
  unfold ex_ii at q
  split at q
  · cases q
    exact ⟨_, _, _, rfl, rfl⟩
  · cases q
theorem ex_ll_v {f : Int64 → Int64 → Int64} (q : ex_ll f nx lv st h = some o) : ∃ x y r, st = .long y :: .long x :: r ∧ o = .inl (nx, lv, .long (f x y) :: r, h) := by
  unfold ex_ll at q
  split at q
  · cases q
    exact ⟨_, _, _, rfl, rfl⟩
  · cases q
theorem ex_li_v {f : Int64 → Int32 → Int64} (q : ex_li f nx lv st h = some o) : ∃ x y r, st = .int y :: .long x :: r ∧ o = .inl (nx, lv, .long (f x y) :: r, h) := by
  unfold ex_li at q
  split at q
  · cases q
    exact ⟨_, _, _, rfl, rfl⟩
  · cases q
theorem ex_i_v {f : Int32 → Value} (q : ex_i f nx lv st h = some o) : ∃ x r, st = .int x :: r ∧ o = .inl (nx, lv, f x :: r, h) := by
  unfold ex_i at q
  split at q
  · cases q
    exact ⟨_, _, rfl, rfl⟩
  · cases q
theorem ex_l_v {f : Int64 → Value} (q : ex_l f nx lv st h = some o) : ∃ x r, st = .long x :: r ∧ o = .inl (nx, lv, f x :: r, h) := by
  unfold ex_l at q
  split at q
  · cases q
    exact ⟨_, _, rfl, rfl⟩
  · cases q
theorem ex_lc_v  (q : ex_lc  nx lv st h = some o) : ∃ x y r, st = .long y :: .long x :: r ∧ o = .inl (nx, lv, .int (lg_cmp x y) :: r, h) := by
  unfold ex_lc at q
  split at q
  · cases q
    exact ⟨_, _, _, rfl, rfl⟩
  · cases q
theorem ex_iid_v {f : Int32 → Int32 → Int32} (q : ex_iid f nx lv st h = some o) : ∃ x y r, ¬ y = 0 ∧ st = .int y :: .int x :: r ∧ o = .inl (nx, lv, .int (f x y) :: r, h) := by
  unfold ex_iid at q
  split at q
  · rename_i y x r
    by_cases hy : y = 0
    · rw [show decide (y = 0) = true from decide_eq_true hy] at q
      cases q
    · rw [show decide (y = 0) = false from decide_eq_false hy] at q
      cases q
      exact ⟨x, y, r, hy, rfl, rfl⟩
  · cases q
theorem ex_lld_v {f : Int64 → Int64 → Int64} (q : ex_lld f nx lv st h = some o) : ∃ x y r, ¬ y = 0 ∧ st = .long y :: .long x :: r ∧ o = .inl (nx, lv, .long (f x y) :: r, h) := by
  unfold ex_lld at q
  split at q
  · rename_i y x r
    by_cases hy : y = 0
    · rw [show decide (y = 0) = true from decide_eq_true hy] at q
      cases q
    · rw [show decide (y = 0) = false from decide_eq_false hy] at q
      cases q
      exact ⟨x, y, r, hy, rfl, rfl⟩
  · cases q
theorem ex_if_v {f : Int32 → Bool} {t : Nat} (q : ex_if f t nx lv st h = some o) : ∃ x r, st = .int x :: r ∧ ((f x = true ∧ o = .inl (t, lv, r, h)) ∨ (f x = false ∧ o = .inl (nx, lv, r, h))) := by
  unfold ex_if at q
  split at q
  · rename_i x r
    refine ⟨x, r, rfl, ?_⟩
    cases hf : f x with
    | true =>
      rw [hf] at q
      cases q
      exact Or.inl ⟨rfl, rfl⟩
    | false =>
      rw [hf] at q
      cases q
      exact Or.inr ⟨rfl, rfl⟩
  · cases q
theorem ex_ic_v {f : Int32 → Int32 → Bool} {t : Nat} (q : ex_ic f t nx lv st h = some o) : ∃ x y r, st = .int y :: .int x :: r ∧ ((f x y = true ∧ o = .inl (t, lv, r, h)) ∨ (f x y = false ∧ o = .inl (nx, lv, r, h))) := by
  unfold ex_ic at q
  split at q
  · rename_i y x r
    refine ⟨x, y, r, rfl, ?_⟩
    cases hf : f x y with
    | true =>
      rw [hf] at q
      cases q
      exact Or.inl ⟨rfl, rfl⟩
    | false =>
      rw [hf] at q
      cases q
      exact Or.inr ⟨rfl, rfl⟩
  · cases q
theorem ex_to_v {pc : Nat} {off : Int} (q : ex_to pc off lv st h = some o) : ∃ t : Nat, (pc : Int) + off = (t : Int) ∧ o = .inl (t, lv, st, h) := by
  unfold ex_to at q
  by_cases hy : 0 ≤ (pc : Int) + off
  · rw [show decide (0 ≤ (pc : Int) + off) = true from decide_eq_true hy] at q
    cases q
    exact ⟨((pc : Int) + off).toNat, by omega, rfl⟩
  · rw [show decide (0 ≤ (pc : Int) + off) = false from decide_eq_false hy] at q
    cases q
theorem ex_ild_v {i : Nat} (q : ex_ild i nx lv st h = some o) : ∃ x, ex_at lv i = some (.int x) ∧ o = .inl (nx, lv, .int x :: st, h) := by
  unfold ex_ild at q
  split at q
  · cases q; exact ⟨_, by assumption, rfl⟩
  · cases q
theorem ex_lld1_v {i : Nat} (q : ex_lld1 i nx lv st h = some o) : ∃ x, ex_at lv i = some (.long x) ∧ o = .inl (nx, lv, .long x :: st, h) := by
  unfold ex_lld1 at q
  split at q
  · cases q; exact ⟨_, by assumption, rfl⟩
  · cases q
theorem ex_ald_v {i : Nat} (q : ex_ald i nx lv st h = some o) : ∃ x, ex_at lv i = some (.ref x) ∧ o = .inl (nx, lv, .ref x :: st, h) := by
  unfold ex_ald at q
  split at q
  · cases q; exact ⟨_, by assumption, rfl⟩
  · cases q
theorem ex_blt {a b : Nat} (h : ¬ a < b) : Nat.blt a b = false := by
  cases hb : Nat.blt a b with
  | false => rfl
  | true => exact absurd (Nat.blt_eq.mp hb) h

theorem ex_ist_v {nL i : Nat} (q : ex_ist nL i nx lv st h = some o) : ∃ x r, i < nL ∧ st = .int x :: r ∧ o = .inl (nx, ex_s1 lv i (.int x), r, h) := by
  unfold ex_ist at q
  split at q
  · rename_i x r
    by_cases hi : i < nL
    · rw [show Nat.blt (i) nL = true from Nat.blt_eq.mpr hi] at q
      cases q
      exact ⟨x, r, hi, rfl, rfl⟩
    · rw [ex_blt hi] at q
      cases q
  · cases q
theorem ex_lst_v {nL i : Nat} (q : ex_lst nL i nx lv st h = some o) : ∃ x r, i + 1 < nL ∧ st = .long x :: r ∧ o = .inl (nx, ex_s2 lv i (.long x), r, h) := by
  unfold ex_lst at q
  split at q
  · rename_i x r
    by_cases hi : i + 1 < nL
    · rw [show Nat.blt (i + 1) nL = true from Nat.blt_eq.mpr hi] at q
      cases q
      exact ⟨x, r, hi, rfl, rfl⟩
    · rw [ex_blt hi] at q
      cases q
  · cases q
theorem ex_ast_v {nL i : Nat} (q : ex_ast nL i nx lv st h = some o) : ∃ x r, i < nL ∧ st = .ref x :: r ∧ o = .inl (nx, ex_s1 lv i (.ref x), r, h) := by
  unfold ex_ast at q
  split at q
  · rename_i x r
    by_cases hi : i < nL
    · rw [show Nat.blt (i) nL = true from Nat.blt_eq.mpr hi] at q
      cases q
      exact ⟨x, r, hi, rfl, rfl⟩
    · rw [ex_blt hi] at q
      cases q
  · cases q
theorem ex_inc_v {nL i : Nat} {n : Int} (q : ex_inc nL i n nx lv st h = some o) : ∃ x, i < nL ∧ ex_at lv i = some (.int x) ∧ o = .inl (nx, ex_s1 lv i (.int (ex_add x (Int32.ofInt n))), st, h) := by
  unfold ex_inc at q
  split at q
  · rename_i x hx
    by_cases hi : i < nL
    · rw [show Nat.blt i nL = true from Nat.blt_eq.mpr hi] at q
      cases q
      exact ⟨x, hi, hx, rfl⟩
    · rw [ex_blt hi] at q
      cases q
  · cases q
theorem ex_dup_v (q : ex_dup nx lv st h = some o) : ∃ v r, v.category = 1 ∧ st = v :: r ∧ o = .inl (nx, lv, v :: v :: r, h) := by
  unfold ex_dup at q
  split at q
  · rename_i v r
    cases hb : Nat.beq v.category 1 with
    | true => rw [hb] at q; cases q; exact ⟨v, r, Nat.eq_of_beq_eq_true hb, rfl, rfl⟩
    | false => rw [hb] at q; cases q
  · cases q
theorem ex_pop_v (q : ex_pop nx lv st h = some o) : ∃ v r, v.category = 1 ∧ st = v :: r ∧ o = .inl (nx, lv, r, h) := by
  unfold ex_pop at q
  split at q
  · rename_i v r
    cases hb : Nat.beq v.category 1 with
    | true => rw [hb] at q; cases q; exact ⟨v, r, Nat.eq_of_beq_eq_true hb, rfl, rfl⟩
    | false => rw [hb] at q; cases q
  · cases q
theorem ex_dupx1_v (q : ex_dupx1 nx lv st h = some o) : ∃ v u r, v.category = 1 ∧ u.category = 1 ∧ st = v :: u :: r ∧ o = .inl (nx, lv, v :: u :: v :: r, h) := by
  unfold ex_dupx1 at q
  split at q
  · rename_i v u r
    cases hb : (Nat.beq v.category 1 && Nat.beq u.category 1) with
    | true =>
      rw [hb] at q
      cases q
      rw [Bool.and_eq_true] at hb
      exact ⟨v, u, r, Nat.eq_of_beq_eq_true hb.1, Nat.eq_of_beq_eq_true hb.2, rfl, rfl⟩
    | false => rw [hb] at q; cases q
  · cases q
theorem ex_dup2_v (q : ex_dup2 nx lv st h = some o) : ∃ v u r, st = v :: u :: r ∧ ((v.category = 2 ∧ o = .inl (nx, lv, v :: v :: u :: r, h)) ∨ (v.category = 1 ∧ u.category = 1 ∧ o = .inl (nx, lv, v :: u :: v :: u :: r, h))) := by
  unfold ex_dup2 at q
  split at q
  · rename_i v u r
    refine ⟨v, u, r, rfl, ?_⟩
    cases hb : Nat.beq v.category 2 with
    | true => rw [hb] at q; cases q; exact Or.inl ⟨Nat.eq_of_beq_eq_true hb, rfl⟩
    | false =>
      rw [hb] at q
      cases hc : (Nat.beq v.category 1 && Nat.beq u.category 1) with
      | true =>
        rw [hc] at q
        cases q
        rw [Bool.and_eq_true] at hc
        exact Or.inr ⟨Nat.eq_of_beq_eq_true hc.1, Nat.eq_of_beq_eq_true hc.2, rfl⟩
      | false => rw [hc] at q; cases q
  · cases q
theorem ex_gf_v {g : ex_G} {ci k : Nat} (q : ex_gf g ci k nx lv st h = some o) : ∃ i fs v r, ex_get g h i = some (.inl (ci, fs)) ∧ fs[k]? = some v ∧ st = .ref i :: r ∧ o = .inl (nx, lv, v :: r, h) := by
  unfold ex_gf at q
  split at q
  · rename_i i r
    split at q
    · rename_i cj fs hg
      cases hb : Nat.beq ci cj with
      | false => rw [hb] at q; cases q
      | true =>
        rw [hb] at q
        have e := Nat.eq_of_beq_eq_true hb
        subst e
        cases hv : ex_nth fs k with
        | none => simp only [hv, cond_true] at q; cases q
        | some v => simp only [hv, cond_true] at q; cases q; exact ⟨i, fs, v, r, hg, (ex_nth_eq _ _).symm.trans hv, rfl, rfl⟩
    · cases q
  · cases q
theorem ex_pf_v {g : ex_G} {tys : List FieldType} {ci k : Nat} (q : ex_pf g tys ci k nx lv st h = some o) : ∃ i fs v r ty, ex_own g h i = some (.inl (ci, fs)) ∧ k < fs.length ∧ tys[k]? = some ty ∧ ex_fit ty v = true ∧ st = v :: .ref i :: r ∧ o = .inl (nx, lv, r, ex_set g h i (.inl (ci, fs.set k v))) := by
  unfold ex_pf at q
  split at q
  · rename_i v i r
    split at q
    · rename_i cj fs hg
      cases hb : (Nat.beq ci cj && Nat.blt k fs.length) with
      | false => rw [hb] at q; cases q
      | true =>
        rw [hb] at q
        rw [Bool.and_eq_true] at hb
        have e := Nat.eq_of_beq_eq_true hb.1
        subst e
        cases hv : ex_nth tys k with
        | none => simp only [hv, cond_true] at q; cases q
        | some ty =>
          simp only [hv, cond_true] at q
          cases hf : ex_fit ty v with
          | false => rw [hf] at q; cases q
          | true => rw [hf] at q; cases q; exact ⟨i, fs, v, r, ty, hg, Nat.blt_eq.mp hb.2, (ex_nth_eq _ _).symm.trans hv, hf, rfl, by rw [ex_lset_eq]⟩
    · cases q
  · cases q
theorem ex_len_v {g : ex_G} (q : ex_len g nx lv st h = some o) : ∃ i t n f r, ex_get g h i = some (.inr (t, n, f)) ∧ t < 5 ∧ st = .ref i :: r ∧ o = .inl (nx, lv, .int (Int32.ofNat n) :: r, h) := by
  unfold ex_len at q
  split at q
  · rename_i i r
    split at q
    · rename_i t n f hg
      cases hb : Nat.blt t 5 with
      | false => rw [hb] at q; cases q
      | true => rw [hb] at q; cases q; exact ⟨i, t, n, f, r, hg, Nat.blt_eq.mp hb, rfl, rfl⟩
    · cases q
  · cases q
theorem ex_xld_v {g : ex_G} {t u : Nat} (q : ex_xld g t u nx lv st h = some o) : ∃ i j k n f r, ex_get g h i = some (.inr (k, n, .inl f)) ∧ (k = t ∨ k = u) ∧ vp_in j n ∧ st = .int j :: .ref i :: r ∧ o = .inl (nx, lv, .int (f j.toNatClampNeg) :: r, h) := by
  unfold ex_xld at q
  split at q
  · rename_i j i r
    split at q
    · rename_i k n f hg
      cases hb : ((Nat.beq k t || Nat.beq k u) && ex_in j n) with
      | false => rw [hb] at q; cases q
      | true =>
        rw [hb] at q
        cases q
        rw [Bool.and_eq_true, Bool.or_eq_true] at hb
        exact ⟨i, j, k, n, f, r, hg, hb.1.elim (fun h => Or.inl (Nat.eq_of_beq_eq_true h)) (fun h => Or.inr (Nat.eq_of_beq_eq_true h)), ex_in_spec hb.2, rfl, rfl⟩
    · cases q
  · cases q
theorem ex_xlld_v {g : ex_G} (q : ex_xlld g nx lv st h = some o) : ∃ i j n f r, ex_own g h i = some (.inr (3, n, .inr (.inl f))) ∧ vp_in j n ∧ st = .int j :: .ref i :: r ∧ o = .inl (nx, lv, .long (f j.toNatClampNeg) :: r, h) := by
  unfold ex_xlld at q
  split at q
  · rename_i j i r
    split at q
    · rename_i k n f hg
      cases hb : (Nat.beq k 3 && ex_in j n) with
      | false => rw [hb] at q; cases q
      | true =>
        rw [hb] at q
        cases q
        rw [Bool.and_eq_true] at hb
        have e := Nat.eq_of_beq_eq_true hb.1
        subst e
        exact ⟨i, j, n, f, r, hg, ex_in_spec hb.2, rfl, rfl⟩
    · cases q
  · cases q
theorem ex_xst_v {g : ex_G} (q : ex_xst g nx lv st h = some o) : ∃ i j n f x r, ex_own g h i = some (.inr (0, n, .inl f)) ∧ vp_in j n ∧ st = .int x :: .int j :: .ref i :: r ∧ o = .inl (nx, lv, r, ex_set g h i (.inr (0, n, .inl (upd f j.toNatClampNeg x)))) := by
  unfold ex_xst at q
  split at q
  · rename_i x j i r
    split at q
    · rename_i k n f hg
      cases hb : (Nat.beq k 0 && ex_in j n) with
      | false => rw [hb] at q; cases q
      | true =>
        rw [hb] at q
        cases q
        rw [Bool.and_eq_true] at hb
        have e := Nat.eq_of_beq_eq_true hb.1
        subst e
        exact ⟨i, j, n, f, x, r, hg, ex_in_spec hb.2, rfl, rfl⟩
    · cases q
  · cases q
theorem ex_xlst_v {g : ex_G} (q : ex_xlst g nx lv st h = some o) : ∃ i j n f x r, ex_own g h i = some (.inr (3, n, .inr (.inl f))) ∧ vp_in j n ∧ st = .long x :: .int j :: .ref i :: r ∧ o = .inl (nx, lv, r, ex_set g h i (.inr (3, n, .inr (.inl (vp_updL f j.toNatClampNeg x))))) := by
  unfold ex_xlst at q
  split at q
  · rename_i x j i r
    split at q
    · rename_i k n f hg
      cases hb : (Nat.beq k 3 && ex_in j n) with
      | false => rw [hb] at q; cases q
      | true =>
        rw [hb] at q
        cases q
        rw [Bool.and_eq_true] at hb
        have e := Nat.eq_of_beq_eq_true hb.1
        subst e
        exact ⟨i, j, n, f, x, r, hg, ex_in_spec hb.2, rfl, rfl⟩
    · cases q
  · cases q
theorem ex_xbst_v {g : ex_G} (q : ex_xbst g nx lv st h = some o) : ∃ i j n f x r, vp_in j n ∧ st = .int x :: .int j :: .ref i :: r ∧ ((ex_own g h i = some (.inr (1, n, .inl f)) ∧ o = .inl (nx, lv, r, ex_set g h i (.inr (1, n, .inl (upd f j.toNatClampNeg x.toInt8.toInt32))))) ∨ (ex_own g h i = some (.inr (2, n, .inl f)) ∧ o = .inl (nx, lv, r, ex_set g h i (.inr (2, n, .inl (upd f j.toNatClampNeg (x &&& 1))))))) := by
  unfold ex_xbst at q
  split at q
  · rename_i x j i r
    split at q
    · rename_i k n f hg
      cases hb : (Nat.beq k 1 && ex_in j n) with
      | true =>
        rw [hb] at q
        cases q
        rw [Bool.and_eq_true] at hb
        have e := Nat.eq_of_beq_eq_true hb.1
        subst e
        exact ⟨i, j, n, f, x, r, ex_in_spec hb.2, rfl, Or.inl ⟨hg, rfl⟩⟩
      | false =>
        rw [hb] at q
        cases hc : (Nat.beq k 2 && ex_in j n) with
        | true =>
          rw [hc] at q
          cases q
          rw [Bool.and_eq_true] at hc
          have e := Nat.eq_of_beq_eq_true hc.1
          subst e
          exact ⟨i, j, n, f, x, r, ex_in_spec hc.2, rfl, Or.inr ⟨hg, rfl⟩⟩
        | false => rw [hc] at q; cases q
    · cases q
  · cases q
theorem ex_xast_v {g : ex_G} (q : ex_xast g nx lv st h = some o) : ∃ i j n f v fs r, ex_own g h i = some (.inr (4, n, .inr (.inr (.inr (.inr f))))) ∧ vp_in j n ∧ v < g.1 ∧ g.2.1 v = some (.inl (13, fs)) ∧ st = .ref v :: .int j :: .ref i :: r ∧ o = .inl (nx, lv, r, ex_set g h i (.inr (4, n, .inr (.inr (.inr (.inr (va_up f j.toNatClampNeg (some v)))))))) := by
  unfold ex_xast at q
  split at q
  · rename_i v j i r
    split at q
    · rename_i k n f hg
      cases hb : (Nat.beq k 4 && ex_in j n && Nat.blt v g.1) with
      | false => rw [hb] at q; cases q
      | true =>
        rw [hb] at q
        rw [Bool.and_eq_true, Bool.and_eq_true] at hb
        have e := Nat.eq_of_beq_eq_true hb.1.1
        subst e
        simp only [cond_true] at q
        split at q
        · rename_i fs hv
          cases q
          exact ⟨i, j, n, f, v, fs, r, hg, ex_in_spec hb.1.2, Nat.blt_eq.mp hb.2, hv, rfl, rfl⟩
        · cases q
    · cases q
  · cases q
theorem ex_xald_v {g : ex_G} (q : ex_xald g nx lv st h = some o) : ∃ i j n f v r, ex_own g h i = some (.inr (4, n, .inr (.inr (.inr (.inr f))))) ∧ vp_in j n ∧ f j.toNatClampNeg = some v ∧ st = .int j :: .ref i :: r ∧ o = .inl (nx, lv, .ref v :: r, h) := by
  unfold ex_xald at q
  split at q
  · rename_i j i r
    split at q
    · rename_i k n f hg
      cases hb : (Nat.beq k 4 && ex_in j n) with
      | false => rw [hb] at q; cases q
      | true =>
        rw [hb] at q
        rw [Bool.and_eq_true] at hb
        have e := Nat.eq_of_beq_eq_true hb.1
        subst e
        simp only [cond_true] at q
        split at q
        · rename_i v hv
          cases q
          exact ⟨i, j, n, f, v, r, hg, ex_in_spec hb.2, hv, rfl, rfl⟩
        · cases q
    · cases q
  · cases q
theorem ex_newa_v {g : ex_G} {t : ArrayType} (q : ex_newa g t nx lv st h = some o) : ∃ n r k z, ¬ n < 0 ∧ n.toNatClampNeg ≤ 1000000 ∧ ex_nar t = some (k, z) ∧ st = .int n :: r ∧ o = .inl (nx, lv, .ref (g.1 + h.1.length) :: r, (h.1 ++ [.inr (k, n.toNatClampNeg, z)], h.2 + n.toNatClampNeg)) := by
  unfold ex_newa at q
  split at q
  · rename_i n r
    cases hb : (!(decide (n < 0)) && Nat.ble n.toNatClampNeg 1000000) with
    | false => rw [hb] at q; cases q
    | true =>
      rw [hb] at q
      rw [Bool.and_eq_true] at hb
      simp only [cond_true] at q
      split at q
      · rename_i k z hz
        cases q
        exact ⟨n, r, k, z, by simpa using hb.1, Nat.le_of_ble_eq_true hb.2, hz, rfl, rfl⟩
      · cases q
  · cases q
theorem ex_newq_v {g : ex_G} (q : ex_newq g nx lv st h = some o) : ∃ n r, ¬ n < 0 ∧ n.toNatClampNeg ≤ 1000000 ∧ st = .int n :: r ∧ o = .inl (nx, lv, .ref (g.1 + h.1.length) :: r, (h.1 ++ [.inr (4, n.toNatClampNeg, .inr (.inr (.inr (.inr (fun _ => none)))))], h.2 + n.toNatClampNeg)) := by
  unfold ex_newq at q
  split at q
  · rename_i n r
    cases hb : (!(decide (n < 0)) && Nat.ble n.toNatClampNeg 1000000) with
    | false => rw [hb] at q; cases q
    | true =>
      rw [hb] at q
      rw [Bool.and_eq_true] at hb
      cases q
      exact ⟨n, r, by simpa using hb.1, Nat.le_of_ble_eq_true hb.2, rfl, rfl⟩
  · cases q
theorem ex_cpy_v {g : ex_G} (q : ex_cpy g nx lv st h = some o) : ∃ n dp b sp a r n0 f n1 k, ex_own g h a = some (.inr (1, n0, .inl f)) ∧ ex_own g h b = some (.inr (1, n1, .inl k)) ∧ n.toNatClampNeg = 0 ∧ ¬ sp < 0 ∧ ¬ dp < 0 ∧ ¬ n < 0 ∧ sp.toNatClampNeg ≤ n0 ∧ dp.toNatClampNeg ≤ n1 ∧ ex_w r ≤ 8 ∧ st = .int n :: .int dp :: .ref b :: .int sp :: .ref a :: r ∧ o = .inl (nx, lv, r, h) := by
  unfold ex_cpy at q
  split at q
  · rename_i n dp b sp a r
    split at q
    · rename_i q1 n0 f u n1 k h1 h2
      cases hb : (Nat.beq q1 u && Nat.beq q1 1 && Nat.beq n.toNatClampNeg 0 && !(decide (sp < 0)) && !(decide (dp < 0)) && !(decide (n < 0)) && Nat.ble sp.toNatClampNeg n0 && Nat.ble dp.toNatClampNeg n1 && Nat.ble (ex_w r) 8) with
      | false => rw [hb] at q; cases q
      | true =>
        rw [hb] at q
        cases q
        simp only [Bool.and_eq_true] at hb
        obtain ⟨⟨⟨⟨⟨⟨⟨⟨c1, c2⟩, c3⟩, c4⟩, c5⟩, c6⟩, c7⟩, c8⟩, c9⟩ := hb
        have e1 := Nat.eq_of_beq_eq_true c1
        have e2 := Nat.eq_of_beq_eq_true c2
        subst e1
        subst e2
        exact ⟨n, dp, b, sp, a, r, n0, f, n1, k, h1, h2, Nat.eq_of_beq_eq_true c3, by simpa using c4, by simpa using c5, by simpa using c6, Nat.le_of_ble_eq_true c7, Nat.le_of_ble_eq_true c8, Nat.le_of_ble_eq_true c9, rfl, rfl⟩
    · cases q
  · cases q
theorem ex_math_v {k : Nat} (q : ex_math k nx lv st h = some o) : ∃ y x r, ex_w r ≤ 8 ∧ st = .int y :: .int x :: r ∧ ((k = 1000001 ∧ o = .inl (nx, lv, .int (if x < y then y else x) :: r, h)) ∨ (k = 1000002 ∧ o = .inl (nx, lv, .int (if y < x then y else x) :: r, h))) := by
  unfold ex_math at q
  split at q
  · rename_i y x r
    cases hw : Nat.ble (ex_w r) 8 with
    | false => rw [hw] at q; cases q
    | true =>
      rw [hw] at q
      refine ⟨y, x, r, Nat.le_of_ble_eq_true hw, rfl, ?_⟩
      simp only [cond_true] at q
      cases h1 : Nat.beq k 1000001 with
      | true =>
        rw [h1] at q
        have e : (bif ex_lt x y then y else x) = if x < y then y else x := by
          by_cases hxy : x < y
          · rw [ex_lt_t.mpr hxy, if_pos hxy]; rfl
          · rw [(ex_bF ex_lt_t).mpr hxy, if_neg hxy]; rfl
        cases q
        exact Or.inl ⟨Nat.eq_of_beq_eq_true h1, by rw [e]⟩
      | false =>
        rw [h1] at q
        simp only [cond_false] at q
        cases h2 : Nat.beq k 1000002 with
        | true =>
          rw [h2] at q
          have e : (bif ex_lt y x then y else x) = if y < x then y else x := by
            by_cases hxy : y < x
            · rw [ex_lt_t.mpr hxy, if_pos hxy]; rfl
            · rw [(ex_bF ex_lt_t).mpr hxy, if_neg hxy]; rfl
          cases q
          exact Or.inr ⟨Nat.eq_of_beq_eq_true h2, by rw [e]⟩
        | false => rw [h2] at q; cases q
  · cases q
end EXINV

