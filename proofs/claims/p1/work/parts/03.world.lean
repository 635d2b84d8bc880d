/-! ===== what the interpreter's cells are on the machine's heap ===== -/
/-- the tables' words: the classes and their slots; the arrays' classes; where the cells are that stood there before; where the first new one comes -/
abbrev ex_P : Type := va_G × (Nat → ClassId) × (Nat → Nat) × Nat
def ex_ad (g : ex_G) (o : ex_P) (i : Nat) : Nat := if i < g.1 then o.2.2.1 i else o.2.2.2 + (i - g.1)
/-- a static of the JDK's of which no more is known than that it is a reference or null: its token is .retAddr 0 -/
def ex_z (o : ex_P) : Option Nat := match o.2.2.1 1000000 with
  | 0 => none
  | a + 1 => some a
def ex_cv (g : ex_G) (o : ex_P) (v : Value) : Value := match v with
  | .ref i => .ref (ex_ad g o i)
  | .retAddr _ => va_rf (ex_z o)
  | w => w
def ex_ca (g : ex_G) (o : ex_P) (f : (Nat → Int32) ⊕ (Nat → Int64) ⊕ (Nat → UInt32) ⊕ (Nat → UInt64) ⊕ (Nat → Option Nat)) : (Nat → Int32) ⊕ (Nat → Int64) ⊕ (Nat → UInt32) ⊕ (Nat → UInt64) ⊕ (Nat → Option Nat) := match f with
  | .inl f => .inl f
  | .inr (.inl f) => .inr (.inl f)
  | .inr (.inr (.inl f)) => .inr (.inr (.inl f))
  | .inr (.inr (.inr (.inl f))) => .inr (.inr (.inr (.inl f)))
  | .inr (.inr (.inr (.inr f))) => .inr (.inr (.inr (.inr (fun j => (f j).map (ex_ad g o)))))
def ex_ce (g : ex_G) (o : ex_P) (c : ex_C) : va_E := match c with
  | .inl (ci, fs) => .inr (ci, fs.map (ex_cv g o))
  | .inr (t, n, f) => .inl (o.2.1 t, n, ex_ca g o f)
def ex_tys (o : ex_P) : List (ClassId × FieldType) := [(o.2.1 0, .int), (o.2.1 1, .byte), (o.2.1 2, .boolean), (o.2.1 3, .long), (o.2.1 4, .object "java/lang/String")]
def ex_A (o : ex_P) : Nat → Prop := fun q => o.2.2.2 ≤ q
def ex_Wd (g : ex_G) (o : ex_P) (h : ex_H) (H : Heap) : Prop := H.size = o.2.2.2 + h.1.length ∧ ∀ (i : Nat) (c : ex_C), h.1[i]? = some c → va_at o.1 ex_cl (o.2.2.2 + i, ex_ce g o c) H
def ex_fdS : u_T := fun k => match k with
  | 0 => ("java/lang/String", "value", "[B", true)
  | _ => ("java/lang/String", "coder", "B", true)
def ex_fd (ci k : Nat) : String × String × String × Bool := match ex_cl[ci]? with
  | some r => r.2.1 k
  | none => ex_fdS k
def ex_cn (ci : Nat) : String := match ex_cl[ci]? with
  | some r => r.1
  | none => "java/lang/String"
/-- the element types of arrays that stood there before -/
def ex_xt (t : Nat) : FieldType := match t with
  | 0 => .int
  | _ => .byte
/-- a cell that stood there before -/
def ex_xc (g : ex_G) (o : ex_P) (c : ex_C) (a : Nat) (U : State) (H : Heap) : Prop := match c with
  | .inl (ci, fs) => ci = 13 ∧ va_O "java/lang/String" a (ex_A o) U H ∧ ∀ (k : Nat) (v : Value), fs[k]? = some v → va_OF (ex_fdS k).1 (ex_fdS k).2.1 (ex_fdS k).2.2.1 (ex_cv g o v) a (ex_A o) U H
  | .inr (t, n, .inl f) => (t = 0 ∨ t = 1) ∧ n < 2 ^ 31 ∧ va_T (ex_xt t) a n (fun j => .int (f j)) (ex_A o) U H
  | .inr _ => False
def ex_X (g : ex_G) (o : ex_P) (U : State) (H : Heap) : Prop :=
  (∀ (i : Nat) (c : ex_C), i < g.1 → g.2.1 i = some c → ex_xc g o c (o.2.2.1 i) U H) ∧
  (∀ q ∈ g.2.2.1, vk_R q.1 q.2.1 q.2.2.2 (ex_ad g o q.2.2.1) U) ∧
  (∀ q ∈ g.2.2.2, va_Z q.1 q.2.1 q.2.2.1 (ex_cv g o q.2.2.2) (ex_A o) U H) ∧ va_AO "java/lang/String" U
theorem ex_X.kept {g : ex_G} {o : ex_P} {U : State} {H H1 : Heap} (h : ex_X g o U H) (hq : ∀ a : Nat, a < H.size → ¬ ex_A o a → H1[a]? = H[a]?) : ex_X g o U H1 := by
  refine ⟨fun i c hi hc => ?_, h.2.1, fun q hm => ?_, h.2.2.2⟩
  · have h1 := h.1 i c hi hc
    match c, h1 with
    | .inl (ci, fs), h1 => exact ⟨h1.1, h1.2.1.kept hq, fun k v hv => (h1.2.2 k v hv).kept hq⟩
    | .inr (t, n, .inl f), h1 => exact ⟨h1.1, h1.2.1, h1.2.2.kept hq⟩
    | .inr (t, n, .inr f), h1 => exact False.elim h1
  · exact (h.2.2.1 q hm).kept hq
theorem ex_X.warm {g : ex_G} {o : ex_P} {s U : State} {H : Heap} (hW : s.WarmedH U.vm) (h : ex_X g o s H) : ex_X g o U H := by
  refine ⟨fun i c hi hc => ?_, fun q hm => vk_R.warm hW (h.2.1 q hm), fun q hm => va_Z.moved hW.alike (h.2.2.1 q hm), va_AO.moved hW.alike h.2.2.2⟩
  have h1 := h.1 i c hi hc
  match c, h1 with
  | .inl (ci, fs), h1 => exact ⟨h1.1, va_O.moved hW.alike h1.2.1, fun k v hv => va_OF.moved hW.alike (h1.2.2 k v hv)⟩
  | .inr (t, n, .inl f), h1 => exact ⟨h1.1, h1.2.1, va_T.moved hW.alike h1.2.2⟩
  | .inr (t, n, .inr f), h1 => exact False.elim h1
theorem ex_X.same {g : ex_G} {o : ex_P} {s U : State} {H : Heap} (hv : U.vm = s.vm) (h : ex_X g o s H) : ex_X g o U H := by
  have ha : s.vm.Alike U.vm := by rw [hv]; exact Vm.Alike.refl _
  refine ⟨fun i c hi hc => ?_, fun q hm => vk_R.same hv (h.2.1 q hm), fun q hm => va_Z.moved ha (h.2.2.1 q hm), va_AO.moved ha h.2.2.2⟩
  have h1 := h.1 i c hi hc
  match c, h1 with
  | .inl (ci, fs), h1 => exact ⟨h1.1, va_O.moved ha h1.2.1, fun k v hv => va_OF.moved ha (h1.2.2 k v hv)⟩
  | .inr (t, n, .inl f), h1 => exact ⟨h1.1, h1.2.1, va_T.moved ha h1.2.2⟩
  | .inr (t, n, .inr f), h1 => exact False.elim h1
-- the words
def ex_wall : List Cond := lw_tbl.filter goodWord
theorem ex_wall_good : ∀ w ∈ ex_wall, (w.onTables && w.keeps) = true ∨ ∃ ty, w = .arrayClass ty := fun w h => good_of_word (List.mem_filter.mp h).2
/-- the classes' rows: names apart, types, slots -/
def ex_clsOk : Prop := ∀ (ci : Nat) (r : vw_C), ex_cl[ci]? = some r → (∀ w ∈ u_ws r.1 r.2.1 r.2.2, w ∈ ex_wall) ∧ (∀ a, a < r.2.2 → ∀ b, b < r.2.2 → a ≠ b → (r.2.1 a).2.1 ≠ (r.2.1 b).2.1) ∧ (ex_ft ci).length = r.2.2 ∧ ∀ k, k < r.2.2 → parseFieldDescriptor (r.2.1 k).2.2.1 = some ((ex_ft ci).getD k .int)
-- cells
theorem ex_own_spec {g : ex_G} {h : ex_H} {i : Nat} {c : ex_C} (q : ex_own g h i = some c) : ¬ i < g.1 ∧ h.1[i - g.1]? = some c := by
  unfold ex_own at q
  by_cases hi : i < g.1
  · rw [show Nat.blt i g.1 = true from Nat.blt_eq.mpr hi] at q
    cases q
  · have hb : Nat.blt i g.1 = false := by
      cases hb : Nat.blt i g.1 with
      | false => rfl
      | true => exact absurd (Nat.blt_eq.mp hb) hi
    rw [hb] at q
    exact ⟨hi, (ex_nth_eq _ _).symm.trans q⟩
theorem ex_get_spec {g : ex_G} {h : ex_H} {i : Nat} {c : ex_C} (q : ex_get g h i = some c) : (i < g.1 ∧ g.2.1 i = some c) ∨ ex_own g h i = some c := by
  unfold ex_get at q
  unfold ex_own
  by_cases hi : i < g.1
  · rw [show Nat.blt i g.1 = true from Nat.blt_eq.mpr hi] at q
    exact Or.inl ⟨hi, q⟩
  · have hb : Nat.blt i g.1 = false := by
      cases hb : Nat.blt i g.1 with
      | false => rfl
      | true => exact absurd (Nat.blt_eq.mp hb) hi
    rw [hb] at q
    rw [hb]
    exact Or.inr q
theorem ex_Wd.at {g : ex_G} {o : ex_P} {h : ex_H} {H : Heap} (hW : ex_Wd g o h H) {i : Nat} {c : ex_C} (q : ex_own g h i = some c) : va_at o.1 ex_cl (ex_ad g o i, ex_ce g o c) H := by
  obtain ⟨h1, h2⟩ := ex_own_spec q
  have e : ex_ad g o i = o.2.2.2 + (i - g.1) := by unfold ex_ad; rw [if_neg h1]
  rw [e]
  exact hW.2 _ _ h2
theorem ex_one {D : va_G} {cl : List vw_C} {H : Heap} {a : Nat} {e : va_E} (h : va_at D cl (a, e) H) : va_P D cl [(a, e)] H := by
  intro k q hk
  match k, hk with
  | 0, hk => cases hk; exact h
  | k + 1, hk => simp at hk
theorem ex_Wd.set {g : ex_G} {o : ex_P} {h : ex_H} {H H1 : Heap} (hW : ex_Wd g o h H) {i : Nat} {c c' : ex_C} (q : ex_own g h i = some c) (hz : H1.size = H.size) (ha : va_at o.1 ex_cl (ex_ad g o i, ex_ce g o c') H1) (hq : ∀ a : Nat, a ≠ ex_ad g o i → H1[a]? = H[a]?) : ex_Wd g o (ex_set g h i c') H1 := by
  obtain ⟨h1, h2⟩ := ex_own_spec q
  have e : ex_ad g o i = o.2.2.2 + (i - g.1) := by unfold ex_ad; rw [if_neg h1]
  rw [e] at ha hq
  have hl : i - g.1 < h.1.length := (List.getElem?_eq_some_iff.mp h2).1
  refine ⟨by rw [hz, hW.1]; show _ = _ + (ex_lset h.1 _ _).length; rw [ex_lset_eq, List.length_set], fun k c1 hk => ?_⟩
  by_cases hki : k = i - g.1
  · subst hki
    rw [show (ex_set g h i c').1 = h.1.set (i - g.1) c' from ex_lset_eq _ _ _, List.getElem?_set_self hl] at hk
    cases hk
    exact ha
  · rw [show (ex_set g h i c').1 = h.1.set (i - g.1) c' from ex_lset_eq _ _ _, List.getElem?_set_ne (Ne.symm hki)] at hk
    exact (hW.2 k c1 hk).kept (hq _ (fun z => hki (by have z2 : o.2.2.2 + k = o.2.2.2 + (i - g.1) := z; omega)))
theorem ex_Wd.push {g : ex_G} {o : ex_P} {h : ex_H} {H H1 : Heap} (hW : ex_Wd g o h H) {c : ex_C} {n : Nat} (hz : H1.size = H.size + 1) (ha : va_at o.1 ex_cl (H.size, ex_ce g o c) H1) (hq : ∀ a : Nat, a < H.size → H1[a]? = H[a]?) : ex_Wd g o (h.1 ++ [c], n) H1 := by
  refine ⟨by rw [hz, hW.1]; show _ = _ + (h.1 ++ [c]).length; rw [List.length_append]; rfl, fun k c1 hk => ?_⟩
  have hk : (h.1 ++ [c])[k]? = some c1 := hk
  by_cases hl : k < h.1.length
  · rw [List.getElem?_append_left hl] at hk
    exact (hW.2 k c1 hk).kept (hq _ (by show o.2.2.2 + k < _; rw [hW.1]; omega))
  · rw [List.getElem?_append_right (by omega)] at hk
    have hz2 : k - h.1.length < 1 := (List.getElem?_eq_some_iff.mp hk).1
    rw [show k - h.1.length = 0 by omega] at hk
    cases hk
    rw [show o.2.2.2 + k = H.size by rw [hW.1]; omega]
    exact ha
theorem ex_ad_new {g : ex_G} {o : ex_P} {h : ex_H} {H : Heap} (hW : ex_Wd g o h H) : ex_ad g o (g.1 + h.1.length) = H.size := by
  unfold ex_ad
  rw [if_neg (by omega), hW.1]
  omega
theorem ex_in_spec {i : Int32} {n : Nat} (h : ex_in i n = true) : vp_in i n := by
  unfold ex_in at h
  rw [Bool.and_eq_true] at h
  obtain ⟨h1, h2⟩ := h
  have h3 : ¬ i < 0 := fun q => by
    have hx := ex_u_int i
    have hy := Int32.lt_iff_toInt_lt.mp q
    have h4 := Nat.le_of_ble_eq_true h1
    have h5 : (0 : Int32).toInt = 0 := rfl
    omega
  have h4 : ex_u i < n + 2147483648 := Nat.blt_eq.mp h2
  rw [ex_u_nn h3] at h4
  exact fun z => z.elim h3 (fun z => by omega)
theorem ex_cat (g : ex_G) (o : ex_P) (v : Value) : (ex_cv g o v).category = v.category := by
  cases v with
  | retAddr a =>
    show (va_rf (ex_z o)).category = 1
    cases ex_z o <;> rfl
  | _ => rfl
theorem ex_wm (g : ex_G) (o : ex_P) (st : List Value) : ((st.map (ex_cv g o)).map fun v => v.category).sum = ex_w st := by
  unfold ex_w
  rw [List.map_map]
  congr 1
  exact List.map_congr_left (fun v _ => ex_cat g o v)
-- locals
def ex_lm (g : ex_G) (o : ex_P) (lv : ex_V) : ex_V := lv.map (fun q => (q.1, ex_cv g o q.2))
theorem ex_at_mem : ∀ {lv : ex_V} {i : Nat} {v : Value}, ex_at lv i = some v → (i, v) ∈ lv := by
  intro lv
  induction lv with
  | nil => intro i v h; cases h
  | cons q t ih =>
    intro i v h
    have h : (bif Nat.beq q.1 i then some q.2 else ex_at t i) = some v := h
    cases hb : Nat.beq q.1 i with
    | true =>
      rw [hb] at h
      have e1 := Nat.eq_of_beq_eq_true hb
      cases h
      obtain ⟨a, b⟩ := q
      subst e1
      exact List.mem_cons_self
    | false =>
      rw [hb] at h
      exact List.mem_cons_of_mem _ (ih h)
theorem ex_ls {g : ex_G} {o : ex_P} {ls : Array Slot} {nL : Nat} {lv : ex_V} (h : lv_has ls nL (ex_lm g o lv)) {i : Nat} {v : Value} (q : ex_at lv i = some v) : ls[i]? = some (.val (ex_cv g o v)) :=
  h.2.2 (i, ex_cv g o v) (List.mem_map.mpr ⟨(i, v), ex_at_mem q, rfl⟩)
theorem ex_lm_s1 (g : ex_G) (o : ex_P) (lv : ex_V) (i : Nat) (v : Value) : (i, ex_cv g o v) :: (ex_lm g o lv).filter (fun q => !(q.1 == i) && !(q.1 + 1 == i && q.2.category == 2)) = ex_lm g o (ex_s1 lv i v) := by
  unfold ex_lm ex_s1
  rw [ex_del_eq, List.map_cons, List.filter_map]
  congr 2
  refine List.filter_congr (fun q _ => ?_)
  show (!(q.1 == i) && !(q.1 + 1 == i && (ex_cv g o q.2).category == 2)) = _
  rw [ex_cat]
theorem ex_lm_s2 (g : ex_G) (o : ex_P) (lv : ex_V) (i : Nat) (v : Value) : (i, ex_cv g o v) :: (ex_lm g o lv).filter (fun q => !(q.1 == i) && (!(q.1 == i + 1) && !(q.1 + 1 == i && q.2.category == 2))) = ex_lm g o (ex_s2 lv i v) := by
  unfold ex_lm ex_s2
  rw [ex_del2_eq, List.map_cons, List.filter_map]
  congr 2
  refine List.filter_congr (fun q _ => ?_)
  show (!(q.1 == i) && (!(q.1 == i + 1) && !(q.1 + 1 == i && (ex_cv g o q.2).category == 2))) = _
  rw [ex_cat]
theorem ex_lm_args (g : ex_G) (o : ex_P) : ∀ (as : List Value) (i : Nat), lv_args i (as.map (ex_cv g o)) = ex_lm g o (lv_args i as) := by
  intro as
  induction as with
  | nil => intro i; rfl
  | cons v t ih =>
    intro i
    show (i, ex_cv g o v) :: lv_args (if (ex_cv g o v).category = 2 then i + 2 else i + 1) (t.map (ex_cv g o)) = (i, ex_cv g o v) :: ex_lm g o (lv_args (if v.category = 2 then i + 2 else i + 1) t)
    rw [ex_cat, ih]
theorem ex_sl_len : ∀ (as : List Value), (lg_sl as).length = ex_w as := by
  intro as
  induction as with
  | nil => rfl
  | cons v t ih =>
    have e : lg_sl (v :: t) = (if v.category = 2 then [.val v, .second] else [.val v]) ++ lg_sl t := rfl
    have e2 : ex_w (v :: t) = v.category + ex_w t := rfl
    rw [e, List.length_append, ih, e2]
    rcases lv_cat v with h | h
    · rw [if_neg (by omega), h]; rfl
    · rw [if_pos h, h]; rfl
theorem ex_fit_spec {ty : FieldType} {v : Value} (g : ex_G) (o : ex_P) (h : ex_fit ty v = true) : narrow ty (ex_cv g o v) = ex_cv g o v ∧ fits ty (ex_cv g o v) = true := by
  unfold ex_fit at h
  split at h
  · rename_i v
    rw [Bool.or_eq_true] at h
    rcases h with h | h
    · have e : v = 0 := by simpa using h
      subst e
      exact ⟨rfl, rfl⟩
    · have e : v = 1 := by simpa using h
      subst e
      exact ⟨rfl, rfl⟩
  · exact ⟨rfl, rfl⟩
  · exact ⟨rfl, rfl⟩
  · exact ⟨rfl, rfl⟩
  · exact ⟨rfl, rfl⟩
  · cases h
