/-! ===== the same interpreter, each instruction's road already taken: for runs that the kernel computes ===== -/
abbrev ex_K : Type := ex_G → ex_V → List Value → ex_H → Option ex_O
noncomputable def ex_fl (kd : List (List (Option ex_K))) (pc : Nat) : Option ex_K := match ex_nth kd (Nat.div pc 16) with
  | some r => (match ex_nth r (Nat.mod pc 16) with | some q => q | none => none)
  | none => none
noncomputable def ex_loopF (g : ex_G) (call : Nat → List Value → ex_H → Option (Option Value × ex_H)) (kd : List (List (Option ex_K))) : Nat → ex_F → Option (Option Value × ex_H)
  | 0, _ => none
  | n + 1, f => match ex_fl kd f.1 with
    | none => none
    | some k => match k g f.2.1 f.2.2.1 f.2.2.2 with
      | none => none
      | some (.inl k) => ex_loopF g call kd n k
      | some (.inr (.inl r)) => some r
      | some (.inr (.inr (k, as, b))) => match call k as b.2.2.2 with
        | none => none
        | some (none, h) => ex_loopF g call kd n (b.1, b.2.1, b.2.2.1, h)
        | some (some v, h) => ex_loopF g call kd n (b.1, b.2.1, v :: b.2.2.1, h)
/-- a method's instructions with their roads -/
noncomputable def ex_row (nL : Nat) (rt : Option FieldType) : Nat → List (Option ex_I) → List (Option ex_K)
  | _, [] => []
  | pc, e :: l => (match e with | none => none | some e => some (fun g lv st h => ex_step g nL rt e pc lv st h)) :: ex_row nL rt (pc + 1) l
noncomputable def ex_rows (nL : Nat) (rt : Option FieldType) : Nat → List (List (Option ex_I)) → List (List (Option ex_K))
  | _, [] => []
  | pc, e :: l => ex_row nL rt pc e :: ex_rows nL rt (pc + 16) l
theorem ex_row_at (nL : Nat) (rt : Option FieldType) : ∀ (l : List (Option ex_I)) (pc j : Nat), (ex_row nL rt pc l)[j]? = (l[j]?).map (fun e => match e with | none => none | some e => some (fun g lv st h => ex_step g nL rt e (pc + j) lv st h)) := by
  intro l
  induction l with
  | nil => intro pc j; rfl
  | cons e l ih =>
    intro pc j
    cases j with
    | zero => cases e <;> rfl
    | succ j =>
      show (ex_row nL rt (pc + 1) l)[j]? = (l[j]?).map _
      rw [ih, show pc + 1 + j = pc + (j + 1) by omega]
theorem ex_rows_at (nL : Nat) (rt : Option FieldType) : ∀ (l : List (List (Option ex_I))) (pc j : Nat), (ex_rows nL rt pc l)[j]? = (l[j]?).map (fun e => ex_row nL rt (pc + 16 * j) e) := by
  intro l
  induction l with
  | nil => intro pc j; rfl
  | cons e l ih =>
    intro pc j
    cases j with
    | zero => rfl
    | succ j =>
      show (ex_rows nL rt (pc + 16) l)[j]? = (l[j]?).map _
      rw [ih, show pc + 16 + 16 * j = pc + 16 * (j + 1) by omega]
theorem ex_fl_rows (nL : Nat) (rt : Option FieldType) (cd : List (List (Option ex_I))) (pc : Nat) : ex_fl (ex_rows nL rt 0 cd) pc = (ex_cd cd pc).map (fun e => fun g lv st h => ex_step g nL rt e pc lv st h) := by
  unfold ex_fl ex_cd
  rw [ex_nth_eq, ex_nth_eq, ex_rows_at]
  cases h : cd[Nat.div pc 16]? with
  | none => rfl
  | some r =>
    simp only [Option.map_some]
    rw [ex_nth_eq, ex_nth_eq, ex_row_at]
    cases h2 : r[Nat.mod pc 16]? with
    | none => rfl
    | some q =>
      cases q with
      | none => rfl
      | some e =>
        simp only [Option.map_some]
        rw [show 0 + 16 * (Nat.div pc 16) + Nat.mod pc 16 = pc by have := Nat.div_add_mod pc 16; show 0 + 16 * (pc / 16) + pc % 16 = pc; omega]
theorem ex_loopF_eq (g : ex_G) (call : Nat → List Value → ex_H → Option (Option Value × ex_H)) (nL : Nat) (rt : Option FieldType) (cd : List (List (Option ex_I))) : ∀ (n : Nat) (f : ex_F), ex_loopF g call (ex_rows nL rt 0 cd) n f = ex_loop g call nL rt cd n f := by
  intro n
  induction n with
  | zero => intro f; rfl
  | succ n ih =>
    intro f
    unfold ex_loopF ex_loop
    rw [ex_fl_rows]
    cases he : ex_cd cd f.1 with
    | none => rfl
    | some e =>
      simp only [Option.map_some]
      cases hs : ex_step g nL rt e f.1 f.2.1 f.2.2.1 f.2.2.2 with
      | none => rfl
      | some q =>
        rcases q with k | r | ⟨k, as, b⟩
        · exact ih k
        · rfl
        · simp only
          cases hc : call k as b.2.2.2 with
          | none => rfl
          | some rh =>
            obtain ⟨rv, h⟩ := rh
            cases rv with
            | none => exact ih _
            | some v => exact ih _
/-- a call by the roads -/
noncomputable def ex_runF (g : ex_G) (Q : Nat → Option (Nat × List (List (Option ex_K)))) (N : Nat) : Nat → Nat → List Value → ex_H → Option (Option Value × ex_H)
  | 0, _, _, _ => none
  | d + 1, k, as, h => match Q k with
    | none => none
    | some M => bif Nat.ble (ex_w as) M.1 then ex_loopF g (ex_runF g Q N d) M.2 N (0, lv_args 0 as, [], h) else none
theorem ex_runF_eq (g : ex_G) (P : Nat → Option ex_M) (Q : Nat → Option (Nat × List (List (Option ex_K)))) (N : Nat) (hQ : ∀ k, Q k = (P k).map (fun M => (M.2.2.1, ex_rows M.2.2.1 M.2.2.2.1 0 M.2.2.2.2))) : ∀ (d k : Nat) (as : List Value) (h : ex_H), ex_runF g Q N d k as h = ex_run g P N d k as h := by
  intro d
  induction d with
  | zero => intro k as h; rfl
  | succ d ih =>
    intro k as h
    unfold ex_runF ex_run
    rw [hQ]
    cases hk : P k with
    | none => rfl
    | some M =>
      simp only [Option.map_some]
      rw [show ex_runF g Q N d = ex_run g P N d from funext fun k => funext fun as => funext fun h => ih k as h, ex_loopF_eq]
