/-! ===== AN INTERPRETER over clean data: references are places of a list of cells; nothing of the machine is in it ===== -/
/-- a cell: an object (its class's place, its fields) or an array (its type's place, length and contents) -/
abbrev ex_C : Type := (Nat × List Value) ⊕ (Nat × vp_A)
/-- the cells that were made, and how many slots they take -/
abbrev ex_H : Type := List ex_C × Nat
/-- an instruction, what it names (three numbers), the place behind it -/
abbrev ex_I : Type := Instr × Nat × Nat × Nat × Nat
abbrev ex_V : Type := List (Nat × Value)
/-- a frame: place, locals, stack; and the heap -/
abbrev ex_F : Type := Nat × ex_V × List Value × ex_H
/-- behind an instruction: it goes on; it returns; it calls (method, arguments, the frame behind) -/
abbrev ex_O : Type := ex_F ⊕ ((Option Value × ex_H) ⊕ (Nat × List Value × ex_F))
/-- what stood there before: how many cells, what they hold; the String constants (class, entry, place, text); the statics -/
abbrev ex_G : Type := Nat × (Nat → Option ex_C) × List (String × Nat × Nat × String) × List (String × String × String × Value)
/-- a method: name, bytes, locals, what it returns, its instructions by sixteens -/
abbrev ex_M : Type := MethodName × ByteArray × Nat × Option FieldType × List (List (Option ex_I))
/-- lists by their recursors: short roads for the kernel -/
noncomputable def ex_nth {α : Type} (l : List α) (i : Nat) : Option α := List.rec (motive := fun _ => Nat → Option α) (fun _ => none) (fun a _ ih n => Nat.rec (motive := fun _ => Option α) (some a) (fun m _ => ih m) n) l i
noncomputable def ex_lset {α : Type} (l : List α) (i : Nat) (c : α) : List α := List.rec (motive := fun _ => Nat → List α) (fun _ => []) (fun a t ih n => Nat.rec (motive := fun _ => List α) (c :: t) (fun m _ => a :: ih m) n) l i
theorem ex_nth_eq {α : Type} : ∀ (l : List α) (i : Nat), ex_nth l i = l[i]? := by
  intro l
  induction l with
  | nil => intro i; rfl
  | cons a t ih =>
    intro i
    cases i with
    | zero => rfl
    | succ i => exact ih i
theorem ex_lset_eq {α : Type} (c : α) : ∀ (l : List α) (i : Nat), ex_lset l i c = l.set i c := by
  intro l
  induction l with
  | nil => intro i; rfl
  | cons a t ih =>
    intro i
    cases i with
    | zero => rfl
    | succ i => exact congrArg (a :: ·) (ih i)
/-- ints by their numbers: what the kernel computes with large numbers at once -/
def ex_v (x : Int32) : Nat := x.toUInt32.toBitVec.toFin.val
def ex_mk (n : Nat) : Int32 := ⟨⟨⟨Nat.mod n 4294967296, Nat.mod_lt _ (by decide)⟩⟩⟩
def ex_add (x y : Int32) : Int32 := ex_mk (Nat.add (ex_v x) (ex_v y))
def ex_sub (x y : Int32) : Int32 := ex_mk (Nat.add (Nat.sub 4294967296 (ex_v y)) (ex_v x))
def ex_u (x : Int32) : Nat := Nat.mod (Nat.add (ex_v x) 2147483648) 4294967296
def ex_eq (x y : Int32) : Bool := Nat.beq (ex_v x) (ex_v y)
def ex_ne (x y : Int32) : Bool := !(Nat.beq (ex_v x) (ex_v y))
def ex_lt (x y : Int32) : Bool := Nat.blt (ex_u x) (ex_u y)
def ex_ge (x y : Int32) : Bool := Nat.ble (ex_u y) (ex_u x)
def ex_gt (x y : Int32) : Bool := Nat.blt (ex_u y) (ex_u x)
def ex_le (x y : Int32) : Bool := Nat.ble (ex_u x) (ex_u y)
def ex_eq0 (x : Int32) : Bool := Nat.beq (ex_v x) 0
def ex_ne0 (x : Int32) : Bool := !(Nat.beq (ex_v x) 0)
def ex_lt0 (x : Int32) : Bool := Nat.blt (ex_u x) 2147483648
def ex_ge0 (x : Int32) : Bool := Nat.ble 2147483648 (ex_u x)
def ex_gt0 (x : Int32) : Bool := Nat.blt 2147483648 (ex_u x)
def ex_le0 (x : Int32) : Bool := Nat.ble (ex_u x) 2147483648
theorem ex_add_eq (x y : Int32) : ex_add x y = x + y := rfl
theorem ex_sub_eq (x y : Int32) : ex_sub x y = x - y := rfl
theorem ex_v_lt (x : Int32) : ex_v x < 4294967296 := x.toUInt32.toBitVec.toFin.isLt
theorem ex_u_int (x : Int32) : (ex_u x : Int) = x.toInt + 2147483648 := by
  have h := x.toUInt32.toBitVec.isLt
  have e : x.toInt = x.toUInt32.toBitVec.toInt := rfl
  have e2 : ex_v x = x.toUInt32.toBitVec.toNat := rfl
  rw [e, BitVec.toInt_eq_toNat_cond]
  show (((ex_v x + 2147483648) % 4294967296 : Nat) : Int) = _
  rw [e2]
  split <;> omega
theorem ex_v_inj {x y : Int32} : ex_v x = ex_v y ↔ x = y := by
  constructor
  · intro h
    have hx := ex_u_int x
    have hy := ex_u_int y
    have e : ex_u x = ex_u y := by unfold ex_u; rw [h]
    exact Int32.toInt_inj.mp (by omega)
  · intro h
    rw [h]
theorem ex_beq {a b : Nat} : Nat.beq a b = true ↔ a = b := ⟨Nat.eq_of_beq_eq_true, fun h => by rw [h]; exact Nat.beq_refl b⟩
theorem ex_bF {b : Bool} {P : Prop} (h : b = true ↔ P) : b = false ↔ ¬ P := by
  rw [← h]
  cases b <;> simp
theorem ex_eq_t {x y : Int32} : ex_eq x y = true ↔ x = y := ex_beq.trans ex_v_inj
theorem ex_ne_t {x y : Int32} : ex_ne x y = true ↔ ¬ x = y := by
  have h : ex_ne x y = !(ex_eq x y) := rfl
  rw [h, ← ex_eq_t]
  cases ex_eq x y <;> simp
theorem ex_lt_t {x y : Int32} : ex_lt x y = true ↔ x < y := by
  have hx := ex_u_int x
  have hy := ex_u_int y
  rw [Int32.lt_iff_toInt_lt, ex_lt, Nat.blt_eq]
  omega
theorem ex_gt_t {x y : Int32} : ex_gt x y = true ↔ y < x := ex_lt_t
theorem ex_le_t {x y : Int32} : ex_le x y = true ↔ x ≤ y := by
  have hx := ex_u_int x
  have hy := ex_u_int y
  rw [Int32.le_iff_toInt_le, ex_le, Nat.ble_eq]
  omega
theorem ex_ge_t {x y : Int32} : ex_ge x y = true ↔ y ≤ x := ex_le_t
theorem ex_eq0_t {x : Int32} : ex_eq0 x = true ↔ x = 0 := ex_eq_t (y := 0)
theorem ex_ne0_t {x : Int32} : ex_ne0 x = true ↔ ¬ x = 0 := ex_ne_t (y := 0)
theorem ex_lt0_t {x : Int32} : ex_lt0 x = true ↔ x < 0 := ex_lt_t (y := 0)
theorem ex_ge0_t {x : Int32} : ex_ge0 x = true ↔ 0 ≤ x := ex_ge_t (y := 0)
theorem ex_gt0_t {x : Int32} : ex_gt0 x = true ↔ 0 < x := ex_gt_t (y := 0)
theorem ex_le0_t {x : Int32} : ex_le0 x = true ↔ x ≤ 0 := ex_le_t (y := 0)
theorem ex_u_nn {x : Int32} (h : ¬ x < 0) : ex_u x = x.toNatClampNeg + 2147483648 := by
  have hx := ex_u_int x
  have h1 : ¬ x.toInt < (0 : Int32).toInt := fun q => h (Int32.lt_iff_toInt_lt.mpr q)
  have h2 : ¬ x.toInt < 0 := h1
  have e : x.toNatClampNeg = x.toInt.toNat := rfl
  omega
noncomputable def ex_get (g : ex_G) (h : ex_H) (i : Nat) : Option ex_C := bif Nat.blt i g.1 then g.2.1 i else ex_nth h.1 (Nat.sub i g.1)
noncomputable def ex_set (g : ex_G) (h : ex_H) (i : Nat) (c : ex_C) : ex_H := (ex_lset h.1 (Nat.sub i g.1) c, h.2)
noncomputable def ex_own (g : ex_G) (h : ex_H) (i : Nat) : Option ex_C := bif Nat.blt i g.1 then none else ex_nth h.1 (Nat.sub i g.1)
def ex_go (pc : Nat) (lv : ex_V) (st : List Value) (h : ex_H) : Option ex_O := some (.inl (pc, lv, st, h))
noncomputable def ex_at (lv : ex_V) (i : Nat) : Option Value := List.rec none (fun q _ ih => bif Nat.beq q.1 i then some q.2 else ih) lv
/-- locals but i (and a two-word local that reaches it) -/
noncomputable def ex_del (lv : ex_V) (i : Nat) : ex_V := List.rec [] (fun q _ ih => bif !(Nat.beq q.1 i) && !(Nat.beq (Nat.succ q.1) i && Nat.beq q.2.category 2) then q :: ih else ih) lv
noncomputable def ex_del2 (lv : ex_V) (i : Nat) : ex_V := List.rec [] (fun q _ ih => bif !(Nat.beq q.1 i) && (!(Nat.beq q.1 (Nat.succ i)) && !(Nat.beq (Nat.succ q.1) i && Nat.beq q.2.category 2)) then q :: ih else ih) lv
noncomputable def ex_s1 (lv : ex_V) (i : Nat) (v : Value) : ex_V := (i, v) :: ex_del lv i
noncomputable def ex_s2 (lv : ex_V) (i : Nat) (v : Value) : ex_V := (i, v) :: ex_del2 lv i
theorem ex_beqb (a b : Nat) : (a == b) = Nat.beq a b := by
  by_cases h : a = b
  · subst h
    rw [Nat.beq_refl, beq_self_eq_true]
  · rw [beq_eq_false_iff_ne.mpr h]
    cases hb : Nat.beq a b with
    | false => rfl
    | true => exact absurd (Nat.eq_of_beq_eq_true hb) h
theorem ex_del_eq (lv : ex_V) (i : Nat) : ex_del lv i = lv.filter (fun q => !(q.1 == i) && !(q.1 + 1 == i && q.2.category == 2)) := by
  induction lv with
  | nil => rfl
  | cons q t ih =>
    have e : ex_del (q :: t) i = bif !(Nat.beq q.1 i) && !(Nat.beq (Nat.succ q.1) i && Nat.beq q.2.category 2) then q :: ex_del t i else ex_del t i := rfl
    rw [e, ih, List.filter_cons]
    simp only [ex_beqb]
    show _ = if (!(Nat.beq q.1 i) && !(Nat.beq (Nat.succ q.1) i && Nat.beq q.2.category 2)) = true then _ else _
    cases (!(Nat.beq q.1 i) && !(Nat.beq (Nat.succ q.1) i && Nat.beq q.2.category 2)) <;> rfl
theorem ex_del2_eq (lv : ex_V) (i : Nat) : ex_del2 lv i = lv.filter (fun q => !(q.1 == i) && (!(q.1 == i + 1) && !(q.1 + 1 == i && q.2.category == 2))) := by
  induction lv with
  | nil => rfl
  | cons q t ih =>
    have e : ex_del2 (q :: t) i = bif !(Nat.beq q.1 i) && (!(Nat.beq q.1 (Nat.succ i)) && !(Nat.beq (Nat.succ q.1) i && Nat.beq q.2.category 2)) then q :: ex_del2 t i else ex_del2 t i := rfl
    rw [e, ih, List.filter_cons]
    simp only [ex_beqb]
    show _ = if (!(Nat.beq q.1 i) && (!(Nat.beq q.1 (Nat.succ i)) && !(Nat.beq (Nat.succ q.1) i && Nat.beq q.2.category 2))) = true then _ else _
    cases (!(Nat.beq q.1 i) && (!(Nat.beq q.1 (Nat.succ i)) && !(Nat.beq (Nat.succ q.1) i && Nat.beq q.2.category 2))) <;> rfl
def ex_w (st : List Value) : Nat := (st.map fun v => v.category).sum
def ex_in (i : Int32) (n : Nat) : Bool := Nat.ble 2147483648 (ex_u i) && Nat.blt (ex_u i) (Nat.add n 2147483648)
noncomputable def ex_cd (cd : List (List (Option ex_I))) (pc : Nat) : Option ex_I := match ex_nth cd (Nat.div pc 16) with
  | some r => (match ex_nth r (Nat.mod pc 16) with | some q => q | none => none)
  | none => none
-- families of instructions
noncomputable def ex_ii (f : Int32 → Int32 → Int32) (nx : Nat) (lv : ex_V) (st : List Value) (h : ex_H) : Option ex_O := match st with
  | .int y :: .int x :: r => ex_go nx lv (.int (f x y) :: r) h
  | _ => none
noncomputable def ex_iid (f : Int32 → Int32 → Int32) (nx : Nat) (lv : ex_V) (st : List Value) (h : ex_H) : Option ex_O := match st with
  | .int y :: .int x :: r => bif decide (y = 0) then none else ex_go nx lv (.int (f x y) :: r) h
  | _ => none
noncomputable def ex_ll (f : Int64 → Int64 → Int64) (nx : Nat) (lv : ex_V) (st : List Value) (h : ex_H) : Option ex_O := match st with
  | .long y :: .long x :: r => ex_go nx lv (.long (f x y) :: r) h
  | _ => none
noncomputable def ex_lld (f : Int64 → Int64 → Int64) (nx : Nat) (lv : ex_V) (st : List Value) (h : ex_H) : Option ex_O := match st with
  | .long y :: .long x :: r => bif decide (y = 0) then none else ex_go nx lv (.long (f x y) :: r) h
  | _ => none
noncomputable def ex_li (f : Int64 → Int32 → Int64) (nx : Nat) (lv : ex_V) (st : List Value) (h : ex_H) : Option ex_O := match st with
  | .int y :: .long x :: r => ex_go nx lv (.long (f x y) :: r) h
  | _ => none
noncomputable def ex_i (f : Int32 → Value) (nx : Nat) (lv : ex_V) (st : List Value) (h : ex_H) : Option ex_O := match st with
  | .int x :: r => ex_go nx lv (f x :: r) h
  | _ => none
noncomputable def ex_l (f : Int64 → Value) (nx : Nat) (lv : ex_V) (st : List Value) (h : ex_H) : Option ex_O := match st with
  | .long x :: r => ex_go nx lv (f x :: r) h
  | _ => none
noncomputable def ex_lc (nx : Nat) (lv : ex_V) (st : List Value) (h : ex_H) : Option ex_O := match st with
  | .long y :: .long x :: r => ex_go nx lv (.int (lg_cmp x y) :: r) h
  | _ => none
noncomputable def ex_if (c : Int32 → Bool) (t nx : Nat) (lv : ex_V) (st : List Value) (h : ex_H) : Option ex_O := match st with
  | .int x :: r => bif c x then ex_go t lv r h else ex_go nx lv r h
  | _ => none
noncomputable def ex_ic (c : Int32 → Int32 → Bool) (t nx : Nat) (lv : ex_V) (st : List Value) (h : ex_H) : Option ex_O := match st with
  | .int y :: .int x :: r => bif c x y then ex_go t lv r h else ex_go nx lv r h
  | _ => none
noncomputable def ex_to (pc : Nat) (off : Int) (lv : ex_V) (st : List Value) (h : ex_H) : Option ex_O := bif decide (0 ≤ (pc : Int) + off) then ex_go ((pc : Int) + off).toNat lv st h else none
noncomputable def ex_tsw (d lo hi : Int) (offs : Array Int) (pc : Nat) (lv : ex_V) (st : List Value) (h : ex_H) : Option ex_O := match st with
  | .int x :: r => bif decide (x.toInt < lo ∨ hi < x.toInt) then ex_to pc d lv r h else (match offs[(x.toInt - lo).toNat]? with | some off => ex_to pc off lv r h | none => none)
  | _ => none
noncomputable def ex_lsw (d : Int) (ps : Array (Int × Int)) (pc : Nat) (lv : ex_V) (st : List Value) (h : ex_H) : Option ex_O := match st with
  | .int x :: r => ex_to pc (Op.lookupswitch.offset ps.toList d x.toInt) lv r h
  | _ => none
noncomputable def ex_ild (i nx : Nat) (lv : ex_V) (st : List Value) (h : ex_H) : Option ex_O := match ex_at lv i with
  | some (.int x) => ex_go nx lv (.int x :: st) h
  | _ => none
noncomputable def ex_lld1 (i nx : Nat) (lv : ex_V) (st : List Value) (h : ex_H) : Option ex_O := match ex_at lv i with
  | some (.long x) => ex_go nx lv (.long x :: st) h
  | _ => none
noncomputable def ex_ald (i nx : Nat) (lv : ex_V) (st : List Value) (h : ex_H) : Option ex_O := match ex_at lv i with
  | some (.ref x) => ex_go nx lv (.ref x :: st) h
  | _ => none
noncomputable def ex_ist (nL i nx : Nat) (lv : ex_V) (st : List Value) (h : ex_H) : Option ex_O := match st with
  | .int x :: r => bif Nat.blt i nL then ex_go nx (ex_s1 lv i (.int x)) r h else none
  | _ => none
noncomputable def ex_lst (nL i nx : Nat) (lv : ex_V) (st : List Value) (h : ex_H) : Option ex_O := match st with
  | .long x :: r => bif Nat.blt (i + 1) nL then ex_go nx (ex_s2 lv i (.long x)) r h else none
  | _ => none
noncomputable def ex_ast (nL i nx : Nat) (lv : ex_V) (st : List Value) (h : ex_H) : Option ex_O := match st with
  | .ref x :: r => bif Nat.blt i nL then ex_go nx (ex_s1 lv i (.ref x)) r h else none
  | _ => none
noncomputable def ex_inc (nL i : Nat) (n : Int) (nx : Nat) (lv : ex_V) (st : List Value) (h : ex_H) : Option ex_O := match ex_at lv i with
  | some (.int x) => bif Nat.blt i nL then ex_go nx (ex_s1 lv i (.int (ex_add x (Int32.ofInt n)))) st h else none
  | _ => none
noncomputable def ex_ldc (x y nx : Nat) (lv : ex_V) (st : List Value) (h : ex_H) : Option ex_O := bif Nat.beq y 0 then ex_go nx lv (.int (Int32.ofNat x) :: st) h else bif Nat.beq y 1 then ex_go nx lv (.ref x :: st) h else ex_go nx lv (.retAddr 0 :: st) h
noncomputable def ex_dup (nx : Nat) (lv : ex_V) (st : List Value) (h : ex_H) : Option ex_O := match st with
  | v :: r => bif Nat.beq v.category 1 then ex_go nx lv (v :: v :: r) h else none
  | _ => none
noncomputable def ex_pop (nx : Nat) (lv : ex_V) (st : List Value) (h : ex_H) : Option ex_O := match st with
  | v :: r => bif Nat.beq v.category 1 then ex_go nx lv r h else none
  | _ => none
noncomputable def ex_dup2 (nx : Nat) (lv : ex_V) (st : List Value) (h : ex_H) : Option ex_O := match st with
  | v :: u :: r => bif Nat.beq v.category 2 then ex_go nx lv (v :: v :: u :: r) h else bif Nat.beq v.category 1 && Nat.beq u.category 1 then ex_go nx lv (v :: u :: v :: u :: r) h else none
  | _ => none
noncomputable def ex_dupx1 (nx : Nat) (lv : ex_V) (st : List Value) (h : ex_H) : Option ex_O := match st with
  | v :: u :: r => bif Nat.beq v.category 1 && Nat.beq u.category 1 then ex_go nx lv (v :: u :: v :: r) h else none
  | _ => none
noncomputable def ex_gf (g : ex_G) (ci k nx : Nat) (lv : ex_V) (st : List Value) (h : ex_H) : Option ex_O := match st with
  | .ref i :: r => (match ex_get g h i with
    | some (.inl (cj, fs)) => bif Nat.beq ci cj then (match ex_nth fs k with | some v => ex_go nx lv (v :: r) h | none => none) else none
    | _ => none)
  | _ => none
/-- what a field of a type may be given -/
noncomputable def ex_fit : FieldType → Value → Bool
  | .boolean, .int v => v == 0 || v == 1
  | .int, .int _ => true
  | .long, .long _ => true
  | .object _, .ref _ => true
  | .array _, .ref _ => true
  | _, _ => false
noncomputable def ex_pf (g : ex_G) (tys : List FieldType) (ci k nx : Nat) (lv : ex_V) (st : List Value) (h : ex_H) : Option ex_O := match st with
  | v :: .ref i :: r => (match ex_own g h i with
    | some (.inl (cj, fs)) => bif Nat.beq ci cj && Nat.blt k fs.length then (match ex_nth tys k with
      | some ty => bif ex_fit ty v then ex_go nx lv r (ex_set g h i (.inl (cj, ex_lset fs k v))) else none
      | none => none) else none
    | _ => none)
  | _ => none
noncomputable def ex_len (g : ex_G) (nx : Nat) (lv : ex_V) (st : List Value) (h : ex_H) : Option ex_O := match st with
  | .ref i :: r => (match ex_get g h i with
    | some (.inr (t, n, _)) => bif Nat.blt t 5 then ex_go nx lv (.int (Int32.ofNat n) :: r) h else none
    | _ => none)
  | _ => none
/-- arrays of ints, bytes, booleans: read (types t and u) -/
noncomputable def ex_xld (g : ex_G) (t u nx : Nat) (lv : ex_V) (st : List Value) (h : ex_H) : Option ex_O := match st with
  | .int j :: .ref i :: r => (match ex_get g h i with
    | some (.inr (q, n, .inl f)) => bif (Nat.beq q t || Nat.beq q u) && ex_in j n then ex_go nx lv (.int (f j.toNatClampNeg) :: r) h else none
    | _ => none)
  | _ => none
noncomputable def ex_xlld (g : ex_G) (nx : Nat) (lv : ex_V) (st : List Value) (h : ex_H) : Option ex_O := match st with
  | .int j :: .ref i :: r => (match ex_own g h i with
    | some (.inr (q, n, .inr (.inl f))) => bif Nat.beq q 3 && ex_in j n then ex_go nx lv (.long (f j.toNatClampNeg) :: r) h else none
    | _ => none)
  | _ => none
noncomputable def ex_xst (g : ex_G) (nx : Nat) (lv : ex_V) (st : List Value) (h : ex_H) : Option ex_O := match st with
  | .int x :: .int j :: .ref i :: r => (match ex_own g h i with
    | some (.inr (q, n, .inl f)) => bif Nat.beq q 0 && ex_in j n then ex_go nx lv r (ex_set g h i (.inr (q, n, .inl (upd f j.toNatClampNeg x)))) else none
    | _ => none)
  | _ => none
noncomputable def ex_xbst (g : ex_G) (nx : Nat) (lv : ex_V) (st : List Value) (h : ex_H) : Option ex_O := match st with
  | .int x :: .int j :: .ref i :: r => (match ex_own g h i with
    | some (.inr (q, n, .inl f)) => bif Nat.beq q 1 && ex_in j n then ex_go nx lv r (ex_set g h i (.inr (q, n, .inl (upd f j.toNatClampNeg x.toInt8.toInt32))))
        else bif Nat.beq q 2 && ex_in j n then ex_go nx lv r (ex_set g h i (.inr (q, n, .inl (upd f j.toNatClampNeg (x &&& 1))))) else none
    | _ => none)
  | _ => none
noncomputable def ex_xlst (g : ex_G) (nx : Nat) (lv : ex_V) (st : List Value) (h : ex_H) : Option ex_O := match st with
  | .long x :: .int j :: .ref i :: r => (match ex_own g h i with
    | some (.inr (q, n, .inr (.inl f))) => bif Nat.beq q 3 && ex_in j n then ex_go nx lv r (ex_set g h i (.inr (q, n, .inr (.inl (vp_updL f j.toNatClampNeg x))))) else none
    | _ => none)
  | _ => none
/-- arrays of Strings: a constant is put in, a place is read -/
noncomputable def ex_xast (g : ex_G) (nx : Nat) (lv : ex_V) (st : List Value) (h : ex_H) : Option ex_O := match st with
  | .ref v :: .int j :: .ref i :: r => (match ex_own g h i with
    | some (.inr (q, n, .inr (.inr (.inr (.inr f))))) => bif Nat.beq q 4 && ex_in j n && Nat.blt v g.1 then (match g.2.1 v with
      | some (.inl (13, _)) => ex_go nx lv r (ex_set g h i (.inr (q, n, .inr (.inr (.inr (.inr (va_up f j.toNatClampNeg (some v))))))))
      | _ => none) else none
    | _ => none)
  | _ => none
noncomputable def ex_xald (g : ex_G) (nx : Nat) (lv : ex_V) (st : List Value) (h : ex_H) : Option ex_O := match st with
  | .int j :: .ref i :: r => (match ex_own g h i with
    | some (.inr (q, n, .inr (.inr (.inr (.inr f))))) => bif Nat.beq q 4 && ex_in j n then (match f j.toNatClampNeg with
      | some v => ex_go nx lv (.ref v :: r) h
      | none => none) else none
    | _ => none)
  | _ => none
noncomputable def ex_new (g : ex_G) (tys : List FieldType) (ci nx : Nat) (lv : ex_V) (st : List Value) (h : ex_H) : Option ex_O :=
  ex_go nx lv (.ref (g.1 + h.1.length) :: st) (h.1 ++ [.inl (ci, tys.map defaultValue)], h.2 + tys.length)
noncomputable def ex_nar (t : ArrayType) : Option (Nat × ((Nat → Int32) ⊕ (Nat → Int64) ⊕ (Nat → UInt32) ⊕ (Nat → UInt64) ⊕ (Nat → Option Nat))) := match t with
  | .int => some (0, .inl (fun _ => 0))
  | .byte => some (1, .inl (fun _ => 0))
  | .boolean => some (2, .inl (fun _ => 0))
  | .long => some (3, .inr (.inl (fun _ => 0)))
  | _ => none
noncomputable def ex_newa (g : ex_G) (t : ArrayType) (nx : Nat) (lv : ex_V) (st : List Value) (h : ex_H) : Option ex_O := match st with
  | .int n :: r => bif !(decide (n < 0)) && Nat.ble n.toNatClampNeg 1000000 then (match ex_nar t with
    | some (q, z) => ex_go nx lv (.ref (g.1 + h.1.length) :: r) (h.1 ++ [.inr (q, n.toNatClampNeg, z)], h.2 + n.toNatClampNeg)
    | none => none) else none
  | _ => none
noncomputable def ex_newq (g : ex_G) (nx : Nat) (lv : ex_V) (st : List Value) (h : ex_H) : Option ex_O := match st with
  | .int n :: r => bif !(decide (n < 0)) && Nat.ble n.toNatClampNeg 1000000 then
      ex_go nx lv (.ref (g.1 + h.1.length) :: r) (h.1 ++ [.inr (4, n.toNatClampNeg, .inr (.inr (.inr (.inr (fun _ => none)))))], h.2 + n.toNatClampNeg) else none
  | _ => none
noncomputable def ex_ac (ne : Bool) (t nx : Nat) (lv : ex_V) (st : List Value) (h : ex_H) : Option ex_O := match st with
  | .ref y :: .ref x :: r => bif Bool.xor ne (Nat.beq x y) then ex_go t lv r h else ex_go nx lv r h
  | _ => none
/-- whether a String is one; a String taken as one -/
noncomputable def ex_isS (g : ex_G) (x nx : Nat) (lv : ex_V) (st : List Value) (h : ex_H) : Option ex_O := match st with
  | .ref i :: r => (match ex_get g h i with
    | some (.inl (13, _)) => bif Nat.beq x 13 then ex_go nx lv (.int 1 :: r) h else none
    | _ => none)
  | _ => none
noncomputable def ex_asS (g : ex_G) (x nx : Nat) (lv : ex_V) (st : List Value) (h : ex_H) : Option ex_O := match st with
  | .ref i :: r => (match ex_get g h i with
    | some (.inl (13, _)) => bif Nat.beq x 13 then ex_go nx lv (.ref i :: r) h else none
    | _ => none)
  | _ => none
noncomputable def ex_ret (rt : Option FieldType) (st : List Value) (h : ex_H) : Option ex_O := match rt, st with
  | some .int, [.int v] => some (.inr (.inl (some (.int v), h)))
  | some .boolean, [.int v] => bif v == 0 || v == 1 then some (.inr (.inl (some (.int v), h))) else none
  | some .char, [.int v] => bif decide (narrow .char (.int v) = .int v) then some (.inr (.inl (some (.int v), h))) else none
  | some .byte, [.int v] => bif decide (narrow .byte (.int v) = .int v) then some (.inr (.inl (some (.int v), h))) else none
  | _, _ => none
noncomputable def ex_lret (rt : Option FieldType) (st : List Value) (h : ex_H) : Option ex_O := match rt, st with
  | some .long, [.long v] => some (.inr (.inl (some (.long v), h)))
  | _, _ => none
noncomputable def ex_aret (rt : Option FieldType) (st : List Value) (h : ex_H) : Option ex_O := match rt, st with
  | some (.object _), [.ref v] => some (.inr (.inl (some (.ref v), h)))
  | _, _ => none
noncomputable def ex_vret (rt : Option FieldType) (st : List Value) (h : ex_H) : Option ex_O := match rt, st with
  | none, [] => some (.inr (.inl (none, h)))
  | _, _ => none
noncomputable def ex_callV (g : ex_G) (k n ci nx : Nat) (lv : ex_V) (st : List Value) (h : ex_H) : Option ex_O := match st.drop n with
  | .ref b :: r => (match ex_get g h b with
    | some (.inl (cj, _)) => bif Nat.beq ci cj && Nat.ble (ex_w r) 8 && Nat.beq (st.take n).length n then some (.inr (.inr (k, .ref b :: (st.take n).reverse, (nx, lv, r, h)))) else none
    | _ => none)
  | _ => none
noncomputable def ex_callI (k n nx : Nat) (lv : ex_V) (st : List Value) (h : ex_H) : Option ex_O := bif Nat.beq k 1000000 then
    (match st with | .ref _ :: r => bif Nat.ble (ex_w r) 8 then ex_go nx lv r h else none | _ => none) else match st.drop n with
  | .ref b :: r => bif Nat.ble (ex_w r) 8 && Nat.beq (st.take n).length n then some (.inr (.inr (k, .ref b :: (st.take n).reverse, (nx, lv, r, h)))) else none
  | _ => none
def ex_cpyf (f k : Nat → Int32) (sp dp n : Nat) : Nat → Int32 := fun j => if dp ≤ j ∧ j < dp + n then f (j - dp + sp) else k j
noncomputable def ex_cpy (g : ex_G) (nx : Nat) (lv : ex_V) (st : List Value) (h : ex_H) : Option ex_O := match st with
  | .int n :: .int dp :: .ref b :: .int sp :: .ref a :: r => (match ex_own g h a, ex_own g h b with
    | some (.inr (q, n0, .inl f)), some (.inr (u, n1, .inl k)) => bif Nat.beq q u && Nat.ble q 1 && !(decide (sp < 0)) && !(decide (dp < 0)) && !(decide (n < 0)) && Nat.ble (Nat.add sp.toNatClampNeg n.toNatClampNeg) n0 && Nat.ble (Nat.add dp.toNatClampNeg n.toNatClampNeg) n1 && Nat.ble (ex_w r) 8 then ex_go nx lv r (ex_set g h b (.inr (u, n1, .inl (ex_cpyf f k sp.toNatClampNeg dp.toNatClampNeg n.toNatClampNeg)))) else none
    | _, _ => none)
  | _ => none
/-- Math's max and min of ints, by the kit's rows -/
noncomputable def ex_math (k nx : Nat) (lv : ex_V) (st : List Value) (h : ex_H) : Option ex_O := match st with
  | .int y :: .int x :: r => bif Nat.ble (ex_w r) 8 then (bif Nat.beq k 1000001 then ex_go nx lv (.int (bif ex_lt x y then y else x) :: r) h else bif Nat.beq k 1000002 then ex_go nx lv (.int (bif ex_lt y x then y else x) :: r) h else bif Nat.beq k 1000003 then ex_go nx lv (.int (bif ex_lt y 0 then -y else y) :: .int x :: r) h else none) else none
  | .int y :: r => bif Nat.ble (ex_w r) 8 then (bif Nat.beq k 1000003 then ex_go nx lv (.int (bif ex_lt y 0 then -y else y) :: r) h else none) else none
  | .long y :: .long x :: r => bif Nat.ble (ex_w r) 8 then (bif Nat.beq k 1000004 then ex_go nx lv (.long (bif decide (x < y) then y else x) :: r) h else bif Nat.beq k 1000005 then ex_go nx lv (.long (bif decide (y < x) then y else x) :: r) h else none) else none
  | _ => none
noncomputable def ex_callS (g : ex_G) (k n nx : Nat) (lv : ex_V) (st : List Value) (h : ex_H) : Option ex_O := bif Nat.beq k 1000000 then ex_cpy g nx lv st h else bif Nat.blt 1000000 k then ex_math k nx lv st h
  else bif Nat.ble (ex_w (st.drop n)) 8 && Nat.beq (st.take n).length n then some (.inr (.inr (k, (st.take n).reverse, (nx, lv, st.drop n, h)))) else none
/-- one instruction (the frame's number of locals, what the method returns, the instruction, its place) -/
noncomputable def ex_step (g : ex_G) (nL : Nat) (rt : Option FieldType) (e : ex_I) (pc : Nat) (lv : ex_V) (st : List Value) (h : ex_H) : Option ex_O := match e with
  | (ins, x, y, z, nx) => match ins with
    | .iconst n => ex_go nx lv (.int (Int32.ofInt n) :: st) h
    | .bipush n => ex_go nx lv (.int (Int8.ofInt n).toInt32 :: st) h
    | .sipush n => ex_go nx lv (.int (Int16.ofInt n).toInt32 :: st) h
    | .lconst n => ex_go nx lv (.long (Int64.ofNat (n : Nat)) :: st) h
    | .ldc _ => ex_ldc x y nx lv st h
    | .ldc_w _ => ex_ldc x y nx lv st h
    | .ldc2_w _ => ex_go nx lv (.long (Int64.ofNat x) :: st) h
    | .iload_n k => ex_ild k nx lv st h
    | .iload k => ex_ild k nx lv st h
    | .lload_n k => ex_lld1 k nx lv st h
    | .lload k => ex_lld1 k nx lv st h
    | .aload_n k => ex_ald k nx lv st h
    | .aload k => ex_ald k nx lv st h
    | .istore_n k => ex_ist nL k nx lv st h
    | .istore k => ex_ist nL k nx lv st h
    | .lstore_n k => ex_lst nL k nx lv st h
    | .lstore k => ex_lst nL k nx lv st h
    | .astore_n k => ex_ast nL k nx lv st h
    | .astore k => ex_ast nL k nx lv st h
    | .iinc k n => ex_inc nL k n nx lv st h
    | .iadd => ex_ii ex_add nx lv st h
    | .isub => ex_ii ex_sub nx lv st h
    | .imul => ex_ii (fun x y => x * y) nx lv st h
    | .iand => ex_ii (fun x y => x &&& y) nx lv st h
    | .ior => ex_ii (fun x y => x ||| y) nx lv st h
    | .ixor => ex_ii (fun x y => x ^^^ y) nx lv st h
    | .ishl => ex_ii (fun x y => x <<< (y &&& 31)) nx lv st h
    | .ishr => ex_ii (fun x y => x >>> (y &&& 31)) nx lv st h
    | .iushr => ex_ii (fun x y => (x.toUInt32 >>> (y.toUInt32 &&& Int32.toUInt32 31)).toInt32) nx lv st h
    | .idiv => ex_iid (fun x y => x / y) nx lv st h
    | .irem => ex_iid (fun x y => x - x / y * y) nx lv st h
    | .ladd => ex_ll (fun x y => x + y) nx lv st h
    | .lsub => ex_ll (fun x y => x - y) nx lv st h
    | .lmul => ex_ll (fun x y => x * y) nx lv st h
    | .land => ex_ll (fun x y => x &&& y) nx lv st h
    | .lor => ex_ll (fun x y => x ||| y) nx lv st h
    | .lxor => ex_ll (fun x y => x ^^^ y) nx lv st h
    | .ldiv => ex_lld (fun x y => x / y) nx lv st h
    | .lrem => ex_lld (fun x y => x - x / y * y) nx lv st h
    | .lshl => ex_li (fun x y => x <<< (y.toInt64 &&& 63)) nx lv st h
    | .lshr => ex_li (fun x y => x >>> (y.toInt64 &&& 63)) nx lv st h
    | .lushr => ex_li (fun x y => (x.toUInt64 >>> (y.toInt64.toUInt64 &&& Int64.toUInt64 63)).toInt64) nx lv st h
    | .ineg => ex_i (fun x => .int (-x)) nx lv st h
    | .i2l => ex_i (fun x => .long x.toInt64) nx lv st h
    | .i2b => ex_i (fun x => .int x.toInt8.toInt32) nx lv st h
    | .i2c => ex_i (fun x => .int (x.toUInt32 % 65536).toInt32) nx lv st h
    | .lneg => ex_l (fun x => .long (-x)) nx lv st h
    | .l2i => ex_l (fun x => .int x.toInt32) nx lv st h
    | .lcmp => ex_lc nx lv st h
    | .ifCond .eq _ => ex_if ex_eq0 x nx lv st h
    | .ifCond .ne _ => ex_if ex_ne0 x nx lv st h
    | .ifCond .lt _ => ex_if ex_lt0 x nx lv st h
    | .ifCond .ge _ => ex_if ex_ge0 x nx lv st h
    | .ifCond .gt _ => ex_if ex_gt0 x nx lv st h
    | .ifCond .le _ => ex_if ex_le0 x nx lv st h
    | .if_icmp .eq _ => ex_ic ex_eq x nx lv st h
    | .if_icmp .ne _ => ex_ic ex_ne x nx lv st h
    | .if_icmp .lt _ => ex_ic ex_lt x nx lv st h
    | .if_icmp .ge _ => ex_ic ex_ge x nx lv st h
    | .if_icmp .gt _ => ex_ic ex_gt x nx lv st h
    | .if_icmp .le _ => ex_ic ex_le x nx lv st h
    | .goto _ => ex_go x lv st h
    | .if_acmp .eq _ => ex_ac false x nx lv st h
    | .if_acmp .ne _ => ex_ac true x nx lv st h
    | .instanceof _ => ex_isS g x nx lv st h
    | .checkcast _ => ex_asS g x nx lv st h
    | .tableswitch d lo hi offs => ex_tsw d lo hi offs pc lv st h
    | .lookupswitch d ps => ex_lsw d ps pc lv st h
    | .dup => ex_dup nx lv st h
    | .dup2 => ex_dup2 nx lv st h
    | .dup_x1 => ex_dupx1 nx lv st h
    | .pop => ex_pop nx lv st h
    | .getfield _ => ex_gf g x y nx lv st h
    | .putfield _ => ex_pf g (ex_ft x) x y nx lv st h
    | .getstatic _ => ex_ldc x y nx lv st h
    | .arraylength => ex_len g nx lv st h
    | .iaload => ex_xld g 0 0 nx lv st h
    | .baload => ex_xld g 1 2 nx lv st h
    | .laload => ex_xlld g nx lv st h
    | .aaload => ex_xald g nx lv st h
    | .iastore => ex_xst g nx lv st h
    | .bastore => ex_xbst g nx lv st h
    | .lastore => ex_xlst g nx lv st h
    | .aastore => ex_xast g nx lv st h
    | .new _ => ex_new g (ex_ft x) x nx lv st h
    | .newarray t => ex_newa g t nx lv st h
    | .anewarray _ => ex_newq g nx lv st h
    | .ireturn => ex_ret rt st h
    | .lreturn => ex_lret rt st h
    | .areturn => ex_aret rt st h
    | .return_ => ex_vret rt st h
    | .invokevirtual _ => ex_callV g x y z nx lv st h
    | .invokespecial _ => ex_callI x y nx lv st h
    | .invokestatic _ => ex_callS g x y nx lv st h
    | _ => none
/-- a frame's run, with what its calls do; so many instructions at most -/
noncomputable def ex_loop (g : ex_G) (call : Nat → List Value → ex_H → Option (Option Value × ex_H)) (nL : Nat) (rt : Option FieldType) (cd : List (List (Option ex_I))) : Nat → ex_F → Option (Option Value × ex_H)
  | 0, _ => none
  | n + 1, f => match ex_cd cd f.1 with
    | none => none
    | some e => match ex_step g nL rt e f.1 f.2.1 f.2.2.1 f.2.2.2 with
      | none => none
      | some (.inl k) => ex_loop g call nL rt cd n k
      | some (.inr (.inl r)) => some r
      | some (.inr (.inr (k, as, b))) => match call k as b.2.2.2 with
        | none => none
        | some (none, h) => ex_loop g call nL rt cd n (b.1, b.2.1, b.2.2.1, h)
        | some (some v, h) => ex_loop g call nL rt cd n (b.1, b.2.1, v :: b.2.2.1, h)
/-- a call, so deep at most -/
noncomputable def ex_run (g : ex_G) (P : Nat → Option ex_M) (N : Nat) : Nat → Nat → List Value → ex_H → Option (Option Value × ex_H)
  | 0, _, _, _ => none
  | d + 1, k, as, h => match P k with
    | none => none
    | some M => bif Nat.ble (ex_w as) M.2.2.1 then ex_loop g (ex_run g P N d) M.2.2.1 M.2.2.2.1 M.2.2.2.2 N (0, lv_args 0 as, [], h) else none
