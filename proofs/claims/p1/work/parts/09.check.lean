/-! ===== the rows of the methods, looked at by program ===== -/
/-- the tables in their pieces: a word's place is 1000 times its piece's, and its own there -/
def ex_tabs : List (List Jvm.Cond) := [k2_sels lw_privs, tables_1_1, tables_1_2, tables_1_3, tables_1_4, tables_1_5, tables_1_6, tables_1_7, tables_1_8, tables_1_9, tables_1_10, tables_1_11, tables_1_12, tables_1_13, tables_1_14, tables_1_15]
theorem ex_tabs_in : ∀ l ∈ ex_tabs, ∀ w ∈ l, w ∈ lw_tbl := by
  intro l hl w hw
  unfold ex_tabs at hl
  unfold lw_tbl tables_1
  simp only [List.mem_append]
  simp only [List.mem_cons, List.not_mem_nil, or_false] at hl
  rcases hl with rfl | rfl | rfl | rfl | rfl | rfl | rfl | rfl | rfl | rfl | rfl | rfl | rfl | rfl | rfl | rfl
  · exact Or.inl hw
  · exact Or.inr (Or.inl hw)
  · exact Or.inr (Or.inr (Or.inl hw))
  · exact Or.inr (Or.inr (Or.inr (Or.inl hw)))
  · exact Or.inr (Or.inr (Or.inr (Or.inr (Or.inl hw))))
  · exact Or.inr (Or.inr (Or.inr (Or.inr (Or.inr (Or.inl hw)))))
  · exact Or.inr (Or.inr (Or.inr (Or.inr (Or.inr (Or.inr (Or.inl hw))))))
  · exact Or.inr (Or.inr (Or.inr (Or.inr (Or.inr (Or.inr (Or.inr (Or.inl hw)))))))
  · exact Or.inr (Or.inr (Or.inr (Or.inr (Or.inr (Or.inr (Or.inr (Or.inr (Or.inl hw))))))))
  · exact Or.inr (Or.inr (Or.inr (Or.inr (Or.inr (Or.inr (Or.inr (Or.inr (Or.inr (Or.inl hw)))))))))
  · exact Or.inr (Or.inr (Or.inr (Or.inr (Or.inr (Or.inr (Or.inr (Or.inr (Or.inr (Or.inr (Or.inl hw))))))))))
  · exact Or.inr (Or.inr (Or.inr (Or.inr (Or.inr (Or.inr (Or.inr (Or.inr (Or.inr (Or.inr (Or.inr (Or.inl hw)))))))))))
  · exact Or.inr (Or.inr (Or.inr (Or.inr (Or.inr (Or.inr (Or.inr (Or.inr (Or.inr (Or.inr (Or.inr (Or.inr (Or.inl hw))))))))))))
  · exact Or.inr (Or.inr (Or.inr (Or.inr (Or.inr (Or.inr (Or.inr (Or.inr (Or.inr (Or.inr (Or.inr (Or.inr (Or.inr (Or.inl hw)))))))))))))
  · exact Or.inr (Or.inr (Or.inr (Or.inr (Or.inr (Or.inr (Or.inr (Or.inr (Or.inr (Or.inr (Or.inr (Or.inr (Or.inr (Or.inr (Or.inl hw))))))))))))))
  · exact Or.inr (Or.inr (Or.inr (Or.inr (Or.inr (Or.inr (Or.inr (Or.inr (Or.inr (Or.inr (Or.inr (Or.inr (Or.inr (Or.inr (Or.inr (hw)))))))))))))))
noncomputable def ex_inb (i : Nat) (w : Jvm.Cond) : Bool := (match ex_nth ex_tabs (Nat.div i 1000) with
  | some l => decide (ex_nth l (Nat.mod i 1000) = some w)
  | none => false) && goodWord w
theorem ex_inb_s {i : Nat} {w : Jvm.Cond} (h : ex_inb i w = true) : w ∈ ex_wall := by
  unfold ex_inb at h
  rw [Bool.and_eq_true] at h
  refine List.mem_filter.mpr ⟨?_, h.2⟩
  have h1 := h.1
  cases hl : ex_nth ex_tabs (Nat.div i 1000) with
  | none => rw [hl] at h1; cases h1
  | some l =>
    rw [hl] at h1
    have h2 := of_decide_eq_true h1
    rw [ex_nth_eq] at hl h2
    exact ex_tabs_in l (List.mem_of_getElem? hl) w (List.mem_of_getElem? h2)
def ex_decb (cc : ByteArray) (pc : Nat) (e : ex_I) : Bool := match e with
  | (ins, _, _, _, nx) => match ins with
    | .tableswitch d lo hi offs => (match decode cc pc with | .ok (i, _) => decide (i = .tableswitch d lo hi offs) | .error _ => false)
    | .lookupswitch d ps => (match decode cc pc with | .ok (i, _) => decide (i = .lookupswitch d ps) | .error _ => false) && (ps.toList.zip (ps.toList.drop 1)).all (fun (a, next) => a.1 < next.1)
    | _ => decide (decode cc pc = .ok (ins, ex_ln ins)) && Nat.beq nx (pc + ex_ln ins)
theorem ex_decb_s {cc : ByteArray} {pc : Nat} {e : ex_I} (h : ex_decb cc pc e = true) : ex_dec cc pc e := by
  obtain ⟨ins, x, y, z, nx⟩ := e
  cases ins with
  | tableswitch d lo hi offs =>
    have h : (match decode cc pc with | .ok (i, _) => decide (i = Instr.tableswitch d lo hi offs) | .error _ => false) = true := h
    show ∃ len, decode cc pc = .ok (Instr.tableswitch d lo hi offs, len)
    cases hd : decode cc pc with
    | error _ => rw [hd] at h; cases h
    | ok q =>
      obtain ⟨i, n⟩ := q
      rw [hd] at h
      have e1 : i = Instr.tableswitch d lo hi offs := of_decide_eq_true h
      exact ⟨n, by rw [e1]⟩
  | lookupswitch d ps =>
    have h : ((match decode cc pc with | .ok (i, _) => decide (i = Instr.lookupswitch d ps) | .error _ => false) && (ps.toList.zip (ps.toList.drop 1)).all (fun (a, next) => a.1 < next.1)) = true := h
    rw [Bool.and_eq_true] at h
    refine ⟨?_, h.2⟩
    show ∃ len, decode cc pc = .ok (Instr.lookupswitch d ps, len)
    have h1 := h.1
    cases hd : decode cc pc with
    | error _ => rw [hd] at h1; cases h1
    | ok q =>
      obtain ⟨i, n⟩ := q
      rw [hd] at h1
      have e1 : i = Instr.lookupswitch d ps := of_decide_eq_true h1
      exact ⟨n, by rw [e1]⟩
  | _ =>
    unfold ex_decb at h
    simp only [Bool.and_eq_true] at h
    exact ⟨of_decide_eq_true h.1, Nat.eq_of_beq_eq_true h.2⟩
noncomputable def ex_lkb (g : ex_G) (P : Nat → Option ex_M) (own mn : String) (pc : Nat) (zs : List Nat) (e : ex_I) : Bool := match e with
  | (ins, x, y, z, _) => match ins with
    | .ldc i | .ldc_w i => bif Nat.beq y 0 then ex_inb (zs.getD 0 0) (Jvm.Cond.constant own i (Int32.ofNat x)) else Nat.beq y 1 && g.2.2.1.any (fun q => decide (q.1 = own) && Nat.beq q.2.1 i && Nat.beq q.2.2.1 x)
    | .ldc2_w i => ex_inb (zs.getD 0 0) (Jvm.Cond.constantLong own i (Int64.ofNat x))
    | .ifCond _ off | .if_icmp _ off | .goto off => decide ((pc : Int) + off = (x : Int))
    | .getfield i => (match ex_cl[x]? with | some r => Nat.blt y r.2.2 | none => true) && ex_inb (zs.getD 0 0) (Jvm.Cond.fieldLink own i (ex_fd x y).1 (ex_fd x y).2.1 (ex_fd x y).2.2.1)
    | .putfield i => (match ex_cl[x]? with
      | some r => Nat.blt y r.2.2 && ex_inb (zs.getD 0 0) (Jvm.Cond.fieldLink own i (r.2.1 y).1 (r.2.1 y).2.1 (r.2.1 y).2.2.1) && (!(r.2.1 y).2.2.2 || (decide (mn = "<init>") && decide ((r.2.1 y).1 = own)))
      | none => false)
    | .getstatic i => g.2.2.2.any (fun q => ex_inb (zs.getD 0 0) (Jvm.Cond.fieldLink own i q.1 q.2.1 q.2.2.1) && decide (q.2.2.2 = (bif Nat.beq y 0 then Value.int (Int32.ofNat x) else bif Nat.beq y 1 then Value.ref x else Value.retAddr 0)))
    | .new i => (match ex_cl[x]? with
      | some r => ex_inb (zs.getD 0 0) (Jvm.Cond.classLink own i r.1) && ex_inb (zs.getD 1 0) (Jvm.Cond.instantiable r.1 r.2.2) && ex_inb (zs.getD 2 0) (Jvm.Cond.initialized r.1)
      | none => false)
    | .newarray t => ex_inb (zs.getD 0 0) (Jvm.Cond.arrayClass (newarray.typeOf t))
    | .anewarray i => ex_inb (zs.getD 0 0) (Jvm.Cond.classLink own i "java/lang/String")
    | .invokevirtual i => (match P x with
      | some M => decide (M.1.cls = ex_cn z) && ex_inb (zs.getD 0 0) (Jvm.Cond.methodLink own i M.1) && ex_inb (zs.getD 1 0) (Jvm.Cond.instanceMethod M.1) && ex_inb (zs.getD 2 0) (Jvm.Cond.selects M.1.cls M.1 M.1) && decide ((parseMethodDescriptor M.1.desc).map (fun d => d.parameters.length) = some y)
      | none => false)
    | .invokespecial i => bif Nat.beq x 1000000 then ex_inb (zs.getD 0 0) (Jvm.Cond.methodLink own i objectInit) && ex_inb (zs.getD 1 0) (Jvm.Cond.instanceMethod objectInit) && ex_inb (zs.getD 2 0) (Jvm.Cond.code objectInit ⟨#[0xb1]⟩ 1 none) else
      (match P x with
      | some M => decide (M.1.name = "<init>") && decide (M.2.2.2.1 = none) && ex_inb (zs.getD 0 0) (Jvm.Cond.methodLink own i M.1) && ex_inb (zs.getD 1 0) (Jvm.Cond.instanceMethod M.1) && decide ((parseMethodDescriptor M.1.desc).map (fun d => d.parameters.length) = some y)
      | none => false)
    | .invokestatic i => bif Nat.beq x 1000000 then ex_inb (zs.getD 0 0) (Jvm.Cond.methodLink own i arraycopyName) && ex_inb (zs.getD 1 0) (Jvm.Cond.native arraycopyName) && ex_inb (zs.getD 2 0) (Jvm.Cond.static arraycopyName) && ex_inb (zs.getD 3 0) (Jvm.Cond.initialized "java/lang/System") else
      bif Nat.beq x 1000001 then ex_inb (zs.getD 0 0) (Jvm.Cond.methodLink own i Lib.Math.max.name) && ex_inb (zs.getD 1 0) (Jvm.Cond.static Lib.Math.max.name) && ex_inb (zs.getD 2 0) (Jvm.Cond.initialized "java/lang/Math") && ex_inb (zs.getD 3 0) (Jvm.Cond.code Lib.Math.max.name Lib.Math.max.code 2 (some .int)) else
      bif Nat.beq x 1000002 then ex_inb (zs.getD 0 0) (Jvm.Cond.methodLink own i Lib.Math.min.name) && ex_inb (zs.getD 1 0) (Jvm.Cond.static Lib.Math.min.name) && ex_inb (zs.getD 2 0) (Jvm.Cond.initialized "java/lang/Math") && ex_inb (zs.getD 3 0) (Jvm.Cond.code Lib.Math.min.name Lib.Math.min.code 2 (some .int)) else
      Nat.blt x 1000000 && (match P x with
      | some M => ex_inb (zs.getD 0 0) (Jvm.Cond.methodLink own i M.1) && ex_inb (zs.getD 1 0) (Jvm.Cond.static M.1) && decide ((parseMethodDescriptor M.1.desc).map (fun d => d.parameters.length) = some y)
      | none => false)
    | _ => true
theorem ex_nb {a b : Nat} (h : ¬ a = b) : Nat.beq a b = false := by
  cases hq : Nat.beq a b with
  | false => rfl
  | true => exact absurd (Nat.eq_of_beq_eq_true hq) h
theorem ex_ldcb_s {g : ex_G} {own : String} {i x y : Nat} {zs : List Nat} (h : (bif Nat.beq y 0 then ex_inb (zs.getD 0 0) (Jvm.Cond.constant own i (Int32.ofNat x)) else Nat.beq y 1 && g.2.2.1.any (fun q => decide (q.1 = own) && Nat.beq q.2.1 i && Nat.beq q.2.2.1 x)) = true) : (y = 0 ∧ Jvm.Cond.constant own i (Int32.ofNat x) ∈ ex_wall) ∨ (y = 1 ∧ ∃ tx, (own, i, x, tx) ∈ g.2.2.1) := by
  by_cases hy : y = 0
  · subst hy
    exact Or.inl ⟨rfl, ex_inb_s h⟩
  · rw [ex_nb hy] at h
    simp only [cond_false, Bool.and_eq_true] at h
    have hy1 := Nat.eq_of_beq_eq_true h.1
    obtain ⟨q, hq, h1⟩ := List.any_eq_true.mp h.2
    simp only [Bool.and_eq_true] at h1
    obtain ⟨⟨e1, e2⟩, e3⟩ := h1
    have e1 := of_decide_eq_true e1
    have e2 := Nat.eq_of_beq_eq_true e2
    have e3 := Nat.eq_of_beq_eq_true e3
    obtain ⟨a, b, c, d⟩ := q
    simp only at e1 e2 e3
    subst e1 e2 e3
    exact Or.inr ⟨hy1, d, hq⟩
theorem ex_lkb_s {g : ex_G} {P : Nat → Option ex_M} {own mn : String} {pc : Nat} {zs : List Nat} {e : ex_I} (h : ex_lkb g P own mn pc zs e = true) : ex_lk g P own mn pc e := by
  obtain ⟨ins, x, y, z, nx⟩ := e
  cases ins with
  | ldc i => exact ex_ldcb_s h
  | ldc_w i => exact ex_ldcb_s h
  | ldc2_w i => exact ex_inb_s h
  | ifCond c off =>
    have h2 : (pc : Int) + off = (x : Int) := of_decide_eq_true h
    exact h2
  | if_icmp c off =>
    have h2 : (pc : Int) + off = (x : Int) := of_decide_eq_true h
    exact h2
  | goto off =>
    have h2 : (pc : Int) + off = (x : Int) := of_decide_eq_true h
    exact h2
  | getfield i =>
    have h : ((match ex_cl[x]? with | some r => Nat.blt y r.2.2 | none => true) && ex_inb (zs.getD 0 0) (Jvm.Cond.fieldLink own i (ex_fd x y).1 (ex_fd x y).2.1 (ex_fd x y).2.2.1)) = true := h
    rw [Bool.and_eq_true] at h
    refine ⟨fun r hr => ?_, ex_inb_s h.2⟩
    have h1 := h.1
    rw [hr] at h1
    exact Nat.blt_eq.mp h1
  | putfield i =>
    have h : (match ex_cl[x]? with
      | some r => Nat.blt y r.2.2 && ex_inb (zs.getD 0 0) (Jvm.Cond.fieldLink own i (r.2.1 y).1 (r.2.1 y).2.1 (r.2.1 y).2.2.1) && (!(r.2.1 y).2.2.2 || (decide (mn = "<init>") && decide ((r.2.1 y).1 = own)))
      | none => false) = true := h
    cases hr : ex_cl[x]? with
    | none => rw [hr] at h; cases h
    | some r =>
      rw [hr] at h
      simp only [Bool.and_eq_true, Bool.or_eq_true, Bool.not_eq_true'] at h
      refine ⟨r, hr, Nat.blt_eq.mp h.1.1, ex_inb_s h.1.2, ?_⟩
      cases hf : (r.2.1 y).2.2.2 with
      | false => exact Or.inl rfl
      | true =>
        rcases h.2 with h2 | h2
        · rw [hf] at h2; cases h2
        · exact Or.inr ⟨rfl, of_decide_eq_true h2.1, of_decide_eq_true h2.2⟩
  | getstatic i =>
    obtain ⟨q, hq, h1⟩ := List.any_eq_true.mp (show g.2.2.2.any (fun q => ex_inb (zs.getD 0 0) (Jvm.Cond.fieldLink own i q.1 q.2.1 q.2.2.1) && decide (q.2.2.2 = (bif Nat.beq y 0 then Value.int (Int32.ofNat x) else bif Nat.beq y 1 then Value.ref x else Value.retAddr 0))) = true from h)
    rw [Bool.and_eq_true] at h1
    exact ⟨q, hq, ex_inb_s h1.1, of_decide_eq_true h1.2⟩
  | new i =>
    have h : (match ex_cl[x]? with
      | some r => ex_inb (zs.getD 0 0) (Jvm.Cond.classLink own i r.1) && ex_inb (zs.getD 1 0) (Jvm.Cond.instantiable r.1 r.2.2) && ex_inb (zs.getD 2 0) (Jvm.Cond.initialized r.1)
      | none => false) = true := h
    cases hr : ex_cl[x]? with
    | none => rw [hr] at h; cases h
    | some r =>
      rw [hr] at h
      simp only [Bool.and_eq_true] at h
      exact ⟨r, hr, ex_inb_s h.1.1, ex_inb_s h.1.2, ex_inb_s h.2⟩
  | newarray t => exact ex_inb_s h
  | anewarray i => exact ex_inb_s h
  | invokevirtual i =>
    have h : (match P x with
      | some M => decide (M.1.cls = ex_cn z) && ex_inb (zs.getD 0 0) (Jvm.Cond.methodLink own i M.1) && ex_inb (zs.getD 1 0) (Jvm.Cond.instanceMethod M.1) && ex_inb (zs.getD 2 0) (Jvm.Cond.selects M.1.cls M.1 M.1) && decide ((parseMethodDescriptor M.1.desc).map (fun d => d.parameters.length) = some y)
      | none => false) = true := h
    cases hr : P x with
    | none => rw [hr] at h; cases h
    | some M =>
      rw [hr] at h
      simp only [Bool.and_eq_true] at h
      exact ⟨M, hr, of_decide_eq_true h.1.1.1.1, ex_inb_s h.1.1.1.2, ex_inb_s h.1.1.2, ex_inb_s h.1.2, of_decide_eq_true h.2⟩
  | invokespecial i =>
    have h : (bif Nat.beq x 1000000 then ex_inb (zs.getD 0 0) (Jvm.Cond.methodLink own i objectInit) && ex_inb (zs.getD 1 0) (Jvm.Cond.instanceMethod objectInit) && ex_inb (zs.getD 2 0) (Jvm.Cond.code objectInit ⟨#[0xb1]⟩ 1 none) else
      (match P x with
      | some M => decide (M.1.name = "<init>") && decide (M.2.2.2.1 = none) && ex_inb (zs.getD 0 0) (Jvm.Cond.methodLink own i M.1) && ex_inb (zs.getD 1 0) (Jvm.Cond.instanceMethod M.1) && decide ((parseMethodDescriptor M.1.desc).map (fun d => d.parameters.length) = some y)
      | none => false)) = true := h
    by_cases hx : x = 1000000
    · subst hx
      rw [show Nat.beq 1000000 1000000 = true from rfl] at h
      simp only [cond_true, Bool.and_eq_true] at h
      exact Or.inl ⟨rfl, ex_inb_s h.1.1, ex_inb_s h.1.2, ex_inb_s h.2⟩
    · rw [ex_nb hx] at h
      simp only [cond_false] at h
      cases hr : P x with
      | none => rw [hr] at h; cases h
      | some M =>
        rw [hr] at h
        simp only [Bool.and_eq_true] at h
        exact Or.inr ⟨hx, M, hr, of_decide_eq_true h.1.1.1.1, of_decide_eq_true h.1.1.1.2, ex_inb_s h.1.1.2, ex_inb_s h.1.2, of_decide_eq_true h.2⟩
  | invokestatic i =>
    have h : (bif Nat.beq x 1000000 then ex_inb (zs.getD 0 0) (Jvm.Cond.methodLink own i arraycopyName) && ex_inb (zs.getD 1 0) (Jvm.Cond.native arraycopyName) && ex_inb (zs.getD 2 0) (Jvm.Cond.static arraycopyName) && ex_inb (zs.getD 3 0) (Jvm.Cond.initialized "java/lang/System") else
      bif Nat.beq x 1000001 then ex_inb (zs.getD 0 0) (Jvm.Cond.methodLink own i Lib.Math.max.name) && ex_inb (zs.getD 1 0) (Jvm.Cond.static Lib.Math.max.name) && ex_inb (zs.getD 2 0) (Jvm.Cond.initialized "java/lang/Math") && ex_inb (zs.getD 3 0) (Jvm.Cond.code Lib.Math.max.name Lib.Math.max.code 2 (some .int)) else
      bif Nat.beq x 1000002 then ex_inb (zs.getD 0 0) (Jvm.Cond.methodLink own i Lib.Math.min.name) && ex_inb (zs.getD 1 0) (Jvm.Cond.static Lib.Math.min.name) && ex_inb (zs.getD 2 0) (Jvm.Cond.initialized "java/lang/Math") && ex_inb (zs.getD 3 0) (Jvm.Cond.code Lib.Math.min.name Lib.Math.min.code 2 (some .int)) else
      Nat.blt x 1000000 && (match P x with
      | some M => ex_inb (zs.getD 0 0) (Jvm.Cond.methodLink own i M.1) && ex_inb (zs.getD 1 0) (Jvm.Cond.static M.1) && decide ((parseMethodDescriptor M.1.desc).map (fun d => d.parameters.length) = some y)
      | none => false)) = true := h
    by_cases hx : x = 1000000
    · subst hx
      rw [show Nat.beq 1000000 1000000 = true from rfl] at h
      simp only [cond_true, Bool.and_eq_true] at h
      exact Or.inl ⟨rfl, ex_inb_s h.1.1.1, ex_inb_s h.1.1.2, ex_inb_s h.1.2, ex_inb_s h.2⟩
    · rw [ex_nb hx] at h
      simp only [cond_false] at h
      by_cases hx1 : x = 1000001
      · subst hx1
        rw [show Nat.beq 1000001 1000001 = true from rfl] at h
        simp only [cond_true, Bool.and_eq_true] at h
        exact Or.inr (Or.inl ⟨rfl, ex_inb_s h.1.1.1, ex_inb_s h.1.1.2, ex_inb_s h.1.2, ex_inb_s h.2⟩)
      · rw [ex_nb hx1] at h
        simp only [cond_false] at h
        by_cases hx2 : x = 1000002
        · subst hx2
          rw [show Nat.beq 1000002 1000002 = true from rfl] at h
          simp only [cond_true, Bool.and_eq_true] at h
          exact Or.inr (Or.inr (Or.inl ⟨rfl, ex_inb_s h.1.1.1, ex_inb_s h.1.1.2, ex_inb_s h.1.2, ex_inb_s h.2⟩))
        · rw [ex_nb hx2] at h
          simp only [cond_false, Bool.and_eq_true] at h
          cases hr : P x with
          | none => rw [hr] at h; cases h.2
          | some M =>
            rw [hr] at h
            simp only [Bool.and_eq_true] at h
            exact Or.inr (Or.inr (Or.inr ⟨Nat.blt_eq.mp h.1, M, hr, ex_inb_s h.2.1.1, ex_inb_s h.2.1.2, of_decide_eq_true h.2.2⟩))
  | _ => exact trivial
/-- all instructions of a method, with the places of the words that they rest on -/
noncomputable def ex_chk (g : ex_G) (P : Nat → Option ex_M) (own mn : String) (cc : ByteArray) (cd : List (List (Option ex_I))) (zt : List (Nat × List Nat)) : Bool :=
  (List.range cd.length).all (fun q => (List.range 16).all (fun j => match ex_cd cd (16 * q + j) with
    | none => true
    | some e => ex_decb cc (16 * q + j) e && ex_lkb g P own mn (16 * q + j) ((zt.lookup (16 * q + j)).getD []) e))
theorem ex_chk_s {g : ex_G} {P : Nat → Option ex_M} {own mn : String} {cc : ByteArray} {cd : List (List (Option ex_I))} {zt : List (Nat × List Nat)} (h : ex_chk g P own mn cc cd zt = true) : ∀ (pc : Nat) (e : ex_I), ex_cd cd pc = some e → ex_dec cc pc e ∧ ex_lk g P own mn pc e := by
  intro pc e he
  have hq : pc / 16 < cd.length := by
    unfold ex_cd at he
    rw [ex_nth_eq] at he
    cases hr : cd[Nat.div pc 16]? with
    | none => rw [hr] at he; cases he
    | some r => exact (List.getElem?_eq_some_iff.mp hr).1
  have h1 := List.all_eq_true.mp (List.all_eq_true.mp h (pc / 16) (List.mem_range.mpr hq)) (pc % 16) (List.mem_range.mpr (Nat.mod_lt _ (by decide)))
  rw [Nat.div_add_mod, he] at h1
  simp only [Bool.and_eq_true] at h1
  exact ⟨ex_decb_s h1.1, ex_lkb_s h1.2⟩
/-- a code word of the tables, by its place (the bytes are compared by name) -/
theorem ex_cw {y : MethodName} {b : ByteArray} {n : Nat} {r : Option FieldType} {l : List Jvm.Cond} (c j : Nat) (h1 : ex_nth ex_tabs c = some l) (h2 : ex_nth l j = some (Jvm.Cond.code y b n r)) : Jvm.Cond.code y b n r ∈ ex_wall := by
  rw [ex_nth_eq] at h1 h2
  exact List.mem_filter.mpr ⟨ex_tabs_in l (List.mem_of_getElem? h1) _ (List.mem_of_getElem? h2), rfl⟩
/-- a method's own row -/
noncomputable def ex_chkM (g : ex_G) (P : Nat → Option ex_M) (M : ex_M) (zt : List (Nat × List Nat)) (ci : Nat) : Bool :=
  plainName M.1.cls && decide (M.1.cls ≠ "java/lang/invoke/MethodHandle") && decide (M.1.cls ≠ "java/lang/invoke/VarHandle") && ex_inb ci (Jvm.Cond.initialized M.1.cls) && Nat.ble M.2.2.1 41 && ex_chk g P M.1.cls M.1.name M.2.1 M.2.2.2.2 zt
theorem ex_chkM_s {g : ex_G} {P : Nat → Option ex_M} {M : ex_M} {zt : List (Nat × List Nat)} {ci : Nat} (hw : Jvm.Cond.code M.1 M.2.1 M.2.2.1 M.2.2.2.1 ∈ ex_wall) (h : ex_chkM g P M zt ci = true) : ex_okM g P M := by
  unfold ex_chkM at h
  simp only [Bool.and_eq_true] at h
  obtain ⟨⟨⟨⟨⟨h1, h2⟩, h3⟩, h4⟩, h6⟩, h7⟩ := h
  exact ⟨h1, ⟨of_decide_eq_true h2, of_decide_eq_true h3⟩, ex_inb_s h4, hw, Nat.le_of_ble_eq_true h6, ex_chk_s h7⟩
/-- a long method in pieces -/
noncomputable def ex_chkR (g : ex_G) (P : Nat → Option ex_M) (own mn : String) (cc : ByteArray) (cd : List (List (Option ex_I))) (zt : List (Nat × List Nat)) (a n : Nat) : Bool :=
  (List.range n).all (fun q => (List.range 16).all (fun j => match ex_cd cd (16 * (a + q) + j) with
    | none => true
    | some e => ex_decb cc (16 * (a + q) + j) e && ex_lkb g P own mn (16 * (a + q) + j) ((zt.lookup (16 * (a + q) + j)).getD []) e))
theorem ex_chkR_s {g : ex_G} {P : Nat → Option ex_M} {own mn : String} {cc : ByteArray} {cd : List (List (Option ex_I))} {zt : List (Nat × List Nat)} {a n : Nat} (h : ex_chkR g P own mn cc cd zt a n = true) : ∀ (pc : Nat) (e : ex_I), a ≤ pc / 16 → pc / 16 < a + n → ex_cd cd pc = some e → ex_dec cc pc e ∧ ex_lk g P own mn pc e := by
  intro pc e h1 h2 he
  have h3 := List.all_eq_true.mp (List.all_eq_true.mp h (pc / 16 - a) (List.mem_range.mpr (by omega))) (pc % 16) (List.mem_range.mpr (Nat.mod_lt _ (by decide)))
  rw [show a + (pc / 16 - a) = pc / 16 by omega, Nat.div_add_mod, he] at h3
  simp only [Bool.and_eq_true] at h3
  exact ⟨ex_decb_s h3.1, ex_lkb_s h3.2⟩
theorem ex_cd_lt {cd : List (List (Option ex_I))} {pc : Nat} {e : ex_I} (he : ex_cd cd pc = some e) : pc / 16 < cd.length := by
  unfold ex_cd at he
  rw [ex_nth_eq] at he
  cases hr : cd[Nat.div pc 16]? with
  | none => rw [hr] at he; cases he
  | some r => exact (List.getElem?_eq_some_iff.mp hr).1
