/-! ===== calls, ends, switches, copies ===== -/
section WC
variable {G : w_G} {d t pc nx k n z ci : Nat} {M : ex_M} {m : w_M} {lv : List (Option w_V)} {st : List w_V} {Q : Int → w_M → Prop} {a b : Int}
theorem w_ns_app {A r : List w_V} (h : w_ns (A ++ r)) : w_ns A ∧ w_ns r := ⟨fun v hv => h v (List.mem_append_left _ hv), fun v hv => h v (List.mem_append_right _ hv)⟩
theorem w_ns_rev {A : List w_V} (h : w_ns A) : w_ns A.reverse := fun v hv => h v (List.mem_reverse.mp hv)
theorem w_callV {i t' : Nat} {fs : List Nat} (A r : List w_V) (hc : ex_cd M.2.2.2.2 pc = some (.invokevirtual i, k, n, ci, nx)) (hs : w_sh G b.toNat = some (.inl (ci, fs))) (hn : A.length = n) (hw : Nat.ble (ex_w (r.map w_cv)) 8 = true)
    (h : w_C G d k t' ((2, b) :: A.reverse) m (fun q m' => w_W G d M t nx lv (w_push t' q r) m' Q)) : w_W G d M t pc lv (A ++ (2, b) :: r) m Q := by
  refine w_call hc (fun s => ⟨?_, w_nst (w_ns_app s).2⟩) (fun hnm e => ?_) h
  · exact w_nsc (w_ns1 (w_ns_app s).2) (w_ns_rev (w_ns_app s).1)
  · have e1 : ((A ++ (2, b) :: r).map w_cv).drop n = .ref b.toNat :: r.map w_cv := by
      rw [List.map_append, List.drop_left' (by rw [List.length_map]; exact hn)]
      rfl
    have e2 : ((A ++ (2, b) :: r).map w_cv).take n = A.map w_cv := by
      rw [List.map_append, List.take_left' (by rw [List.length_map]; exact hn)]
    show ex_callV (w_g G) k n ci nx e _ _ = _
    unfold ex_callV
    rw [e1]
    simp only
    rw [w_get hnm hs]
    show (bif Nat.beq ci ci && Nat.ble (ex_w (r.map w_cv)) 8 && Nat.beq (((A ++ (2, b) :: r).map w_cv).take n).length n then some (Sum.inr (Sum.inr (k, Value.ref b.toNat :: (((A ++ (2, b) :: r).map w_cv).take n).reverse, (nx, e, r.map w_cv, w_hp G m)))) else none : Option ex_O) = _
    rw [e2, Nat.beq_refl, hw, List.length_map, hn, Nat.beq_refl, ← List.map_reverse]
    rfl
theorem w_callS {i t' : Nat} (A r : List w_V) (hc : ex_cd M.2.2.2.2 pc = some (.invokestatic i, k, n, z, nx)) (hk : k < 1000000) (hn : A.length = n) (hw : Nat.ble (ex_w (r.map w_cv)) 8 = true)
    (h : w_C G d k t' A.reverse m (fun q m' => w_W G d M t nx lv (w_push t' q r) m' Q)) : w_W G d M t pc lv (A ++ r) m Q := by
  refine w_call hc (fun s => ⟨w_ns_rev (w_ns_app s).1, (w_ns_app s).2⟩) (fun hnm e => ?_) h
  have e1 : ((A ++ r).map w_cv).drop n = r.map w_cv := by
    rw [List.map_append, List.drop_left' (by rw [List.length_map]; exact hn)]
  have e2 : ((A ++ r).map w_cv).take n = A.map w_cv := by
    rw [List.map_append, List.take_left' (by rw [List.length_map]; exact hn)]
  show ex_callS (w_g G) k n nx e _ _ = _
  unfold ex_callS
  rw [e1, e2, show Nat.beq k 1000000 = false by (cases hq : Nat.beq k 1000000 with | false => rfl | true => exact absurd (Nat.eq_of_beq_eq_true hq) (by omega)), show Nat.blt 1000000 k = false by (cases hq : Nat.blt 1000000 k with | false => rfl | true => exact absurd (Nat.blt_eq.mp hq) (by omega)), hw, List.length_map, hn, Nat.beq_refl, ← List.map_reverse]
  rfl
-- ends
theorem w_iret {x y : Nat} (hc : ex_cd M.2.2.2.2 pc = some (.ireturn, x, y, z, nx)) (ht : M.2.2.2.1 = some .int) (h : Q a m) : w_W G d M 0 pc lv [(0, a)] m Q :=
  w_ret hc (fun s => w_ns1 s) (fun e => by
    show ex_ret M.2.2.2.1 _ _ = _
    rw [ht]
    rfl) h
theorem w_zret {x y : Nat} (hc : ex_cd M.2.2.2.2 pc = some (.ireturn, x, y, z, nx)) (ht : M.2.2.2.1 = some .boolean) (hg : a = 0 ∨ a = 1) (h : Q a m) : w_W G d M 0 pc lv [(0, a)] m Q :=
  w_ret hc (fun s => w_ns1 s) (fun e => by
    show ex_ret M.2.2.2.1 _ _ = _
    rw [ht]
    rcases hg with rfl | rfl <;> rfl) h
theorem w_cret {x y : Nat} (hc : ex_cd M.2.2.2.2 pc = some (.ireturn, x, y, z, nx)) (ht : M.2.2.2.1 = some .char) (hg : narrow .char (.int (Int32.ofInt a)) = .int (Int32.ofInt a)) (h : Q a m) : w_W G d M 0 pc lv [(0, a)] m Q :=
  w_ret hc (fun s => w_ns1 s) (fun e => by
    show ex_ret M.2.2.2.1 _ _ = _
    rw [ht]
    show (bif decide (narrow .char (.int (Int32.ofInt a)) = .int (Int32.ofInt a)) then _ else none) = _
    rw [decide_eq_true hg]
    rfl) h
theorem w_bret {x y : Nat} (hc : ex_cd M.2.2.2.2 pc = some (.ireturn, x, y, z, nx)) (ht : M.2.2.2.1 = some .byte) (hg : narrow .byte (.int (Int32.ofInt a)) = .int (Int32.ofInt a)) (h : Q a m) : w_W G d M 0 pc lv [(0, a)] m Q :=
  w_ret hc (fun s => w_ns1 s) (fun e => by
    show ex_ret M.2.2.2.1 _ _ = _
    rw [ht]
    show (bif decide (narrow .byte (.int (Int32.ofInt a)) = .int (Int32.ofInt a)) then _ else none) = _
    rw [decide_eq_true hg]
    rfl) h
theorem w_lret {x y : Nat} (hc : ex_cd M.2.2.2.2 pc = some (.lreturn, x, y, z, nx)) (ht : M.2.2.2.1 = some .long) (h : Q a m) : w_W G d M 1 pc lv [(1, a)] m Q :=
  w_ret hc (fun s => w_ns1 s) (fun e => by
    show ex_lret M.2.2.2.1 _ _ = _
    rw [ht]
    rfl) h
theorem w_aret {x y : Nat} {C : String} (hc : ex_cd M.2.2.2.2 pc = some (.areturn, x, y, z, nx)) (ht : M.2.2.2.1 = some (.object C)) (h : Q a m) : w_W G d M 2 pc lv [(2, a)] m Q :=
  w_ret hc (fun s => w_ns1 s) (fun e => by
    show ex_aret M.2.2.2.1 _ _ = _
    rw [ht]
    rfl) h
theorem w_vret {x y : Nat} (hc : ex_cd M.2.2.2.2 pc = some (.return_, x, y, z, nx)) (ht : M.2.2.2.1 = none) (h : Q 0 m) : w_W G d M 3 pc lv [] m Q :=
  w_ret hc (fun s => Int.le_refl 0) (fun e => by
    show ex_vret M.2.2.2.1 _ _ = _
    rw [ht]
    rfl) h
-- entry
def w_args : List w_V → List (Option w_V)
  | [] => []
  | (1, a) :: r => some (1, a) :: none :: w_args r
  | v :: r => some v :: w_args r
theorem w_args_get : ∀ (as : List w_V) (i j : Nat) (v : w_V), (w_args as)[j]? = some (some v) → ex_at (lv_args i (as.map w_cv)) (i + j) = some (w_cv v) := by
  intro as
  induction as with
  | nil => intro i j v h; cases h
  | cons u r ih =>
    intro i j v h
    show ex_at ((i, w_cv u) :: lv_args (if (w_cv u).category = 2 then i + 2 else i + 1) (r.map w_cv)) (i + j) = _
    obtain ⟨tu, au⟩ := u
    by_cases hu : tu = 1
    · subst hu
      rw [w_cat, if_pos rfl, if_pos rfl]
      match j, h with
      | 0, h => cases h; exact ex_at_hd _ _ _
      | 1, h => cases h
      | j + 2, h =>
        rw [ex_at_tl _ _ _ _ (by omega)]
        have := ih (i + 2) j v h
        rw [show i + 2 + j = i + (j + 2) by omega] at this
        exact this
    · have e : w_args ((tu, au) :: r) = some (tu, au) :: w_args r := by
        match tu, hu with
        | 0, _ => rfl
        | 1, hu => exact absurd rfl hu
        | q + 2, _ => rfl
      rw [e] at h
      rw [w_cat, if_neg hu, if_neg (by omega)]
      match j, h with
      | 0, h => cases h; exact ex_at_hd _ _ _
      | j + 1, h =>
        rw [ex_at_tl _ _ _ _ (by omega)]
        have := ih (i + 1) j v h
        rw [show i + 1 + j = i + (j + 1) by omega] at this
        exact this
theorem w_args_r : ∀ (as : List w_V) (j : Nat) (v : w_V), (w_args as)[j]? = some (some v) → v ∈ as := by
  intro as
  induction as with
  | nil => intro j v h; cases h
  | cons u r ih =>
    intro j v h
    obtain ⟨tu, au⟩ := u
    by_cases hu : tu = 1
    · subst hu
      match j, h with
      | 0, h => cases h; exact List.mem_cons_self
      | 1, h => cases h
      | j + 2, h => exact List.mem_cons_of_mem _ (ih j v h)
    · have e : w_args ((tu, au) :: r) = some (tu, au) :: w_args r := by
        match tu, hu with
        | 0, _ => rfl
        | 1, hu => exact absurd rfl hu
        | q + 2, _ => rfl
      rw [e] at h
      match j, h with
      | 0, h => cases h; exact List.mem_cons_self
      | j + 1, h => exact List.mem_cons_of_mem _ (ih j v h)
theorem w_enter {as : List w_V} {q : Nat} (hP : G.2.2.2.2.2.1 k = some M) (hw : Nat.ble (ex_w (as.map w_cv)) M.2.2.1 = true) (hl : w_args as ++ List.replicate q none = lv) (h : w_W G d M t 0 lv [] m Q) : w_C G (d + 1) k t as m Q := by
  have key : ∀ (j : Nat) (v : w_V), lv[j]? = some (some v) → (w_args as)[j]? = some (some v) := by
    intro j v hj
    rw [← hl] at hj
    by_cases hq : j < (w_args as).length
    · rw [List.getElem?_append_left hq] at hj
      exact hj
    · rw [List.getElem?_append_right (by omega), List.getElem?_replicate] at hj
      split at hj
      · cases hj
      · cases hj
  intro h1 h2
  obtain ⟨N, r, m', q1, q2, q3, q4⟩ := h h1 (fun j v hj => h2 v (w_args_r as j v (key j v hj))) (fun v hv => by cases hv)
  replace q1 := q1 (lv_args 0 (as.map w_cv)) (fun j v hj => by
    have := w_args_get as 0 j v (key j v hj)
    rw [Nat.zero_add] at this
    exact this)
  refine ⟨N, r, m', ?_, q2, q3, q4⟩
  unfold w_rn ex_run
  rw [hP]
  simp only
  rw [hw]
  exact q1
-- switches
def w_sel (F : Nat → Prop) (a : Int) (df : Nat) : List (Int × Nat) → Prop
  | [] => F df
  | (c, p) :: r => if a = c then F p else w_sel F a df r
theorem w_to_ok {off : Int} {p : Nat} {e : ex_V} {s : List Value} {h : ex_H} (hp : (pc : Int) + off = (p : Int)) : ex_to pc off e s h = some (.inl (p, e, s, h)) := by
  unfold ex_to
  rw [hp, decide_eq_true (Int.natCast_nonneg p), Int.toNat_natCast]
  rfl
/-- the cases of a switch, one by one -/
theorem w_sel_at {F : Nat → Prop} {a : Int} {df : Nat} : ∀ {cs : List (Int × Nat)}, w_sel F a df cs → (∃ q ∈ cs, q.1 = a ∧ F q.2 ∧ Op.lookupswitch.offset (cs.map fun q => (q.1, (q.2 : Int) - (pc : Int))) ((df : Int) - pc) a = (q.2 : Int) - pc) ∨ ((∀ q ∈ cs, q.1 ≠ a) ∧ F df ∧ Op.lookupswitch.offset (cs.map fun q => (q.1, (q.2 : Int) - (pc : Int))) ((df : Int) - pc) a = (df : Int) - pc) := by
  intro cs
  induction cs with
  | nil => intro h; exact Or.inr ⟨fun q hq => (by cases hq), h, rfl⟩
  | cons c r ih =>
    intro h
    obtain ⟨c, p⟩ := c
    have h : (if a = c then F p else w_sel F a df r) := h
    show (∃ q ∈ (c, p) :: r, q.1 = a ∧ F q.2 ∧ (if c = a then (p : Int) - pc else Op.lookupswitch.offset (r.map fun q => (q.1, (q.2 : Int) - (pc : Int))) ((df : Int) - pc) a) = (q.2 : Int) - pc) ∨ ((∀ q ∈ (c, p) :: r, q.1 ≠ a) ∧ F df ∧ (if c = a then (p : Int) - pc else Op.lookupswitch.offset (r.map fun q => (q.1, (q.2 : Int) - (pc : Int))) ((df : Int) - pc) a) = (df : Int) - pc)
    by_cases hq : a = c
    · rw [if_pos hq] at h
      exact Or.inl ⟨(c, p), List.mem_cons_self, hq.symm, h, by rw [if_pos hq.symm]⟩
    · rw [if_neg hq] at h
      rw [if_neg (fun q => hq q.symm)]
      rcases ih h with ⟨q, h1, h2, h3, h4⟩ | ⟨h1, h2, h3⟩
      · exact Or.inl ⟨q, List.mem_cons_of_mem _ h1, h2, h3, h4⟩
      · refine Or.inr ⟨fun q hm => ?_, h2, h3⟩
        rcases List.mem_cons.mp hm with e | hm
        · rw [e]; exact fun z => hq z.symm
        · exact h1 q hm
theorem w_lswitch {x y : Nat} {df : Int} {ps : Array (Int × Int)} {pd : Nat} (cs : List (Int × Nat)) (hc : ex_cd M.2.2.2.2 pc = some (.lookupswitch df ps, x, y, z, nx)) (hd : df = (pd : Int) - (pc : Int)) (hps : ps.toList = cs.map fun q => (q.1, (q.2 : Int) - (pc : Int))) (h : w_sel (fun p => w_W G d M t p lv st m Q) a pd cs) : w_W G d M t pc lv ((0, a) :: st) m Q := by
  subst hd
  have key : ∃ p : Nat, w_W G d M t p lv st m Q ∧ Op.lookupswitch.offset ps.toList ((pd : Int) - pc) a = (p : Int) - pc := by
    rw [hps]
    rcases w_sel_at (pc := pc) h with ⟨q, h1, h2, h3, h4⟩ | ⟨h1, h2, h3⟩
    · exact ⟨q.2, h3, h4⟩
    · exact ⟨pd, h2, h3⟩
  obtain ⟨p, hF, hp⟩ := key
  intro h1 h2 h3
  have ha := w_i_to (w_ns1 h3)
  exact w_goS (nx := p) (st' := st) hc (fun _ _ s => w_nst s) (fun _ _ s e _ => by
    show ex_to pc (Op.lookupswitch.offset ps.toList ((pd : Int) - pc) (Int32.ofInt a).toInt) e _ _ = _
    rw [ha, hp]
    exact w_to_ok (by omega)) hF h1 h2 h3
theorem w_tswitch {x y : Nat} {df lo hi : Int} {offs : Array Int} {pd : Nat} (cs : List (Int × Nat)) (hc : ex_cd M.2.2.2.2 pc = some (.tableswitch df lo hi offs, x, y, z, nx)) (hd : df = (pd : Int) - (pc : Int)) (hlen : hi = lo + offs.size - 1)
    (hps : ∀ i : Nat, i < offs.size → ∃ q ∈ cs, q.1 = lo + i ∧ offs[i]? = some ((q.2 : Int) - (pc : Int)) ∧ ∀ q' ∈ cs, q'.1 = lo + i → q'.2 = q.2) (hin : ∀ q ∈ cs, lo ≤ q.1 ∧ q.1 ≤ hi) (h : w_sel (fun p => w_W G d M t p lv st m Q) a pd cs) : w_W G d M t pc lv ((0, a) :: st) m Q := by
  subst hd
  intro h1 h2 h3
  have ha := w_i_to (w_ns1 h3)
  by_cases hq : a < lo ∨ hi < a
  · have hF : w_W G d M t pd lv st m Q := by
      rcases w_sel_at (pc := pc) h with ⟨q, h1, h2, h3, h4⟩ | ⟨h1, h2, h3⟩
      · have := hin q h1
        omega
      · exact h2
    exact w_goS (nx := pd) (st' := st) hc (fun _ _ s => w_nst s) (fun _ _ s e _ => by
      show (bif decide ((Int32.ofInt a).toInt < lo ∨ hi < (Int32.ofInt a).toInt) then ex_to pc ((pd : Int) - pc) e _ _ else _) = _
      rw [ha, decide_eq_true hq]
      exact w_to_ok (by omega)) hF h1 h2 h3
  · obtain ⟨q, q1, q2, q3, q4⟩ := hps (a - lo).toNat (by omega)
    have hF : w_W G d M t q.2 lv st m Q := by
      rcases w_sel_at (pc := pc) h with ⟨q', h1, h2, h3, h4⟩ | ⟨h1, h2, h3⟩
      · rw [← q4 q' h1 (by omega)]
        exact h3
      · exact absurd (by omega) (h1 q q1)
    exact w_goS (nx := q.2) (st' := st) hc (fun _ _ s => w_nst s) (fun _ _ s e _ => by
      show (bif decide ((Int32.ofInt a).toInt < lo ∨ hi < (Int32.ofInt a).toInt) then ex_to pc ((pd : Int) - pc) e _ _ else (match offs[((Int32.ofInt a).toInt - lo).toNat]? with | some off => ex_to pc off e (st.map w_cv) (w_hp G m) | none => none)) = _
      rw [ha, decide_eq_false hq, q3]
      exact w_to_ok (by omega)) hF h1 h2 h3
-- copies
def w_cpy (m : w_M) (i sp j dp n : Int) : w_M := fun a b => if a = j ∧ dp ≤ b ∧ b < dp + n then m i (b - dp + sp) else m a b
theorem w_acopy {i y ta na nb : Nat} {sp dp n : Int} (hc : ex_cd M.2.2.2.2 pc = some (.invokestatic i, 1000000, y, z, nx)) (hsa : w_sh G a.toNat = some (.inr (ta, na))) (hsb : w_sh G b.toNat = some (.inr (ta, nb))) (hEa : G.1 ≤ a.toNat) (hEb : w_wr G b.toNat) (hta : ta < 2)
    (hw : Nat.ble (ex_w (st.map w_cv)) 8 = true) (hg : 0 ≤ n ∧ 0 ≤ sp ∧ 0 ≤ dp ∧ sp + n ≤ na ∧ dp + n ≤ nb) (h : w_W G d M t nx lv st (w_cpy m a sp b dp n) Q) : w_W G d M t pc lv ((0, n) :: (0, dp) :: (2, b) :: (0, sp) :: (2, a) :: st) m Q := by
  obtain ⟨g1, g2, g3, g4, g5⟩ := hg
  refine w_go hc (fun hn l s => ?_) (fun s => w_ke.on (w_rn0 (w_nst (w_nst s))) hEb (fun q j hq => by unfold w_cpy; rw [if_neg (fun z => hq z.1)])) (fun hn l s e le => ⟨e, le, ?_⟩) h
  · have hb0 := w_rn0 (w_nst (w_nst s))
    have ha0 := w_rn0 (w_nst (w_nst (w_nst (w_nst s))))
    refine ⟨w_nm_set hn hsb hEb.1 (fun q j hq => ?_) (fun q j hq => ?_) (fun j hj => ?_) ?_, l, w_nst (w_nst (w_nst (w_nst (w_nst s))))⟩
    · unfold w_cpy
      rw [if_neg (by omega)]
    · unfold w_cpy
      rw [if_neg (by omega)]
    · unfold w_cpy
      rw [if_neg (fun z => hj ⟨by omega, by omega⟩)]
    · show ∀ j : Int, w_ar ta (w_cpy m a sp b dp n (b.toNat : Nat) j)
      intro j
      rw [Int.toNat_of_nonneg hb0]
      unfold w_cpy
      split
      · exact w_ar_r hn ha0 hsa _
      · exact w_ar_r hn hb0 hsb _
  · have hb0 := w_rn0 (w_nst (w_nst s))
    have ha0 := w_rn0 (w_nst (w_nst (w_nst (w_nst s))))
    have rn := w_i_to (w_ns1 s)
    have rd := w_i_to (w_ns1 (w_nst s))
    have rs := w_i_to (w_ns1 (w_nst (w_nst (w_nst s))))
    have c1 : (Int32.ofInt n).toNatClampNeg = n.toNat := by show (Int32.ofInt n).toInt.toNat = _; rw [rn]
    have c2 : (Int32.ofInt dp).toNatClampNeg = dp.toNat := by show (Int32.ofInt dp).toInt.toNat = _; rw [rd]
    have c3 : (Int32.ofInt sp).toNatClampNeg = sp.toNat := by show (Int32.ofInt sp).toInt.toNat = _; rw [rs]
    have z1 : decide (Int32.ofInt n < 0) = false := decide_eq_false (fun q => by have := (w_i_lt (b := 0) (w_ns1 s) w_r0).mp q; omega)
    have z2 : decide (Int32.ofInt dp < 0) = false := decide_eq_false (fun q => by have := (w_i_lt (b := 0) (w_ns1 (w_nst s)) w_r0).mp q; omega)
    have z3 : decide (Int32.ofInt sp < 0) = false := decide_eq_false (fun q => by have := (w_i_lt (b := 0) (w_ns1 (w_nst (w_nst (w_nst s)))) w_r0).mp q; omega)
    show ex_cpy (w_g G) nx e (.int (Int32.ofInt n) :: .int (Int32.ofInt dp) :: .ref b.toNat :: .int (Int32.ofInt sp) :: .ref a.toNat :: st.map w_cv) (w_hp G m) = _
    unfold ex_cpy
    simp only
    rw [w_own hsa hEa, w_own hsb hEb.1]
    have ea : w_cell m (a.toNat : Nat) (.inr (ta, na)) = .inr (ta, na, .inl (fun q : Nat => Int32.ofInt (m a q))) := by
      show Sum.inr (ta, na, w_ct m (a.toNat : Nat) ta) = _
      rw [w_ct3 ha0 (by omega)]
    have eb : w_cell m (b.toNat : Nat) (.inr (ta, nb)) = .inr (ta, nb, .inl (fun q : Nat => Int32.ofInt (m b q))) := by
      show Sum.inr (ta, nb, w_ct m (b.toNat : Nat) ta) = _
      rw [w_ct3 hb0 (by omega)]
    rw [ea, eb]
    simp only
    rw [Nat.beq_refl, show Nat.ble ta 1 = true from Nat.ble_eq.mpr (by omega), z1, z2, z3, c1, c2, c3, show Nat.ble (Nat.add sp.toNat n.toNat) na = true from Nat.ble_eq.mpr (by show sp.toNat + n.toNat ≤ na; omega), show Nat.ble (Nat.add dp.toNat n.toNat) nb = true from Nat.ble_eq.mpr (by show dp.toNat + n.toNat ≤ nb; omega), hw]
    show some (Sum.inl (nx, e, st.map w_cv, ex_set (w_g G) (w_hp G m) b.toNat (.inr (ta, nb, .inl (ex_cpyf (fun q : Nat => Int32.ofInt (m a q)) (fun q : Nat => Int32.ofInt (m b q)) sp.toNat dp.toNat n.toNat))))) = _
    congr 5
    have h1 : (Sum.inr (ta, nb, .inl (ex_cpyf (fun q : Nat => Int32.ofInt (m a q)) (fun q : Nat => Int32.ofInt (m b q)) sp.toNat dp.toNat n.toNat)) : ex_C) = w_cell (w_cpy m a sp b dp n) (b.toNat : Nat) (.inr (ta, nb)) := by
      show _ = Sum.inr (ta, nb, w_ct (w_cpy m a sp b dp n) (b.toNat : Nat) ta)
      rw [w_ct3 hb0 (by omega)]
      congr 4
      funext q
      unfold ex_cpyf w_cpy
      by_cases hq : dp.toNat ≤ q ∧ q < dp.toNat + n.toNat
      · rw [if_pos hq, if_pos ⟨rfl, by omega, by omega⟩]
        have e : ((q - dp.toNat + sp.toNat : Nat) : Int) = (q : Int) - dp + sp := by omega
        rw [← e]
      · rw [if_neg hq, if_neg (by omega)]
    rw [h1]
    exact w_set hsb hEb.1 (fun q j hq => by unfold w_cpy; rw [if_neg (by omega)])
-- Math
theorem ex_callS_m {g : ex_G} {k n : Nat} {e : ex_V} {s : List Value} {h : ex_H} (hk : 1000000 < k) : ex_callS g k n nx e s h = ex_math k nx e s h := by
  unfold ex_callS
  rw [show Nat.beq k 1000000 = false by (cases hq : Nat.beq k 1000000 with | false => rfl | true => exact absurd (Nat.eq_of_beq_eq_true hq) (by omega)), show Nat.blt 1000000 k = true from Nat.blt_eq.mpr hk]
  rfl
theorem ex_beq_n {a b : Nat} (h : a ≠ b) : Nat.beq a b = false := by cases hq : Nat.beq a b with | false => rfl | true => exact absurd (Nat.eq_of_beq_eq_true hq) h
theorem w_max {i y : Nat} (hc : ex_cd M.2.2.2.2 pc = some (.invokestatic i, 1000001, y, z, nx)) (hw : Nat.ble (ex_w (st.map w_cv)) 8 = true) (h : w_W G d M t nx lv ((0, max a b) :: st) m Q) : w_W G d M t pc lv ((0, b) :: (0, a) :: st) m Q :=
  w_goS hc (fun _ _ s => w_nsc (show w_r 0 _ by rcases Int.le_total a b with q | q; rw [Int.max_eq_right q]; exact w_ns1 s; rw [Int.max_eq_left q]; exact w_ns1 (w_nst s)) (w_nst (w_nst s))) (fun _ _ s e _ => by
    show ex_callS (w_g G) 1000001 y nx e (.int (Int32.ofInt b) :: .int (Int32.ofInt a) :: st.map w_cv) _ = _
    rw [ex_callS_m (by omega)]
    unfold ex_math
    simp only
    rw [hw, Nat.beq_refl]
    show ex_go nx e (.int (bif ex_lt (Int32.ofInt a) (Int32.ofInt b) then Int32.ofInt b else Int32.ofInt a) :: st.map w_cv) _ = some (.inl (nx, e, .int (Int32.ofInt (max a b)) :: st.map w_cv, _))
    by_cases q : a < b
    · rw [w_bT ex_lt_t (w_i_lt (w_ns1 (w_nst s)) (w_ns1 s)) q, Int.max_eq_right (by omega)]
      rfl
    · rw [w_bF ex_lt_t (w_i_lt (w_ns1 (w_nst s)) (w_ns1 s)) q, Int.max_eq_left (by omega)]
      rfl) h
theorem w_min {i y : Nat} (hc : ex_cd M.2.2.2.2 pc = some (.invokestatic i, 1000002, y, z, nx)) (hw : Nat.ble (ex_w (st.map w_cv)) 8 = true) (h : w_W G d M t nx lv ((0, min a b) :: st) m Q) : w_W G d M t pc lv ((0, b) :: (0, a) :: st) m Q :=
  w_goS hc (fun _ _ s => w_nsc (show w_r 0 _ by rcases Int.le_total a b with q | q; rw [Int.min_eq_left q]; exact w_ns1 (w_nst s); rw [Int.min_eq_right q]; exact w_ns1 s) (w_nst (w_nst s))) (fun _ _ s e _ => by
    show ex_callS (w_g G) 1000002 y nx e (.int (Int32.ofInt b) :: .int (Int32.ofInt a) :: st.map w_cv) _ = _
    rw [ex_callS_m (by omega)]
    unfold ex_math
    simp only
    rw [hw, ex_beq_n (show 1000002 ≠ 1000001 by omega), Nat.beq_refl]
    show ex_go nx e (.int (bif ex_lt (Int32.ofInt b) (Int32.ofInt a) then Int32.ofInt b else Int32.ofInt a) :: st.map w_cv) _ = some (.inl (nx, e, .int (Int32.ofInt (min a b)) :: st.map w_cv, _))
    by_cases q : b < a
    · rw [w_bT ex_lt_t (w_i_lt (w_ns1 s) (w_ns1 (w_nst s))) q, Int.min_eq_right (by omega)]
      rfl
    · rw [w_bF ex_lt_t (w_i_lt (w_ns1 s) (w_ns1 (w_nst s))) q, Int.min_eq_left (by omega)]
      rfl) h
theorem w_lmax {i y : Nat} (hc : ex_cd M.2.2.2.2 pc = some (.invokestatic i, 1000004, y, z, nx)) (hw : Nat.ble (ex_w (st.map w_cv)) 8 = true) (h : w_W G d M t nx lv ((1, max a b) :: st) m Q) : w_W G d M t pc lv ((1, b) :: (1, a) :: st) m Q :=
  w_goS hc (fun _ _ s => w_nsc (show w_r 1 _ by rcases Int.le_total a b with q | q; rw [Int.max_eq_right q]; exact w_ns1 s; rw [Int.max_eq_left q]; exact w_ns1 (w_nst s)) (w_nst (w_nst s))) (fun _ _ s e _ => by
    show ex_callS (w_g G) 1000004 y nx e (.long (Int64.ofInt b) :: .long (Int64.ofInt a) :: st.map w_cv) _ = _
    rw [ex_callS_m (by omega)]
    unfold ex_math
    simp only
    rw [hw, Nat.beq_refl]
    show ex_go nx e (.long (bif decide (Int64.ofInt a < Int64.ofInt b) then Int64.ofInt b else Int64.ofInt a) :: st.map w_cv) _ = some (.inl (nx, e, .long (Int64.ofInt (max a b)) :: st.map w_cv, _))
    by_cases q : a < b
    · rw [decide_eq_true ((w_l_lt (w_ns1 (w_nst s)) (w_ns1 s)).mpr q), Int.max_eq_right (by omega)]
      rfl
    · rw [decide_eq_false (fun p => q ((w_l_lt (w_ns1 (w_nst s)) (w_ns1 s)).mp p)), Int.max_eq_left (by omega)]
      rfl) h
theorem w_lmin {i y : Nat} (hc : ex_cd M.2.2.2.2 pc = some (.invokestatic i, 1000005, y, z, nx)) (hw : Nat.ble (ex_w (st.map w_cv)) 8 = true) (h : w_W G d M t nx lv ((1, min a b) :: st) m Q) : w_W G d M t pc lv ((1, b) :: (1, a) :: st) m Q :=
  w_goS hc (fun _ _ s => w_nsc (show w_r 1 _ by rcases Int.le_total a b with q | q; rw [Int.min_eq_left q]; exact w_ns1 (w_nst s); rw [Int.min_eq_right q]; exact w_ns1 s) (w_nst (w_nst s))) (fun _ _ s e _ => by
    show ex_callS (w_g G) 1000005 y nx e (.long (Int64.ofInt b) :: .long (Int64.ofInt a) :: st.map w_cv) _ = _
    rw [ex_callS_m (by omega)]
    unfold ex_math
    simp only
    rw [hw, ex_beq_n (show 1000005 ≠ 1000004 by omega), Nat.beq_refl]
    show ex_go nx e (.long (bif decide (Int64.ofInt b < Int64.ofInt a) then Int64.ofInt b else Int64.ofInt a) :: st.map w_cv) _ = some (.inl (nx, e, .long (Int64.ofInt (min a b)) :: st.map w_cv, _))
    by_cases q : b < a
    · rw [decide_eq_true ((w_l_lt (w_ns1 s) (w_ns1 (w_nst s))).mpr q), Int.min_eq_right (by omega)]
      rfl
    · rw [decide_eq_false (fun p => q ((w_l_lt (w_ns1 s) (w_ns1 (w_nst s))).mp p)), Int.min_eq_left (by omega)]
      rfl) h
theorem w_abs_step {e : ex_V} {v : Int32} {s : List Value} {h : ex_H} (hw : Nat.ble (ex_w s) 8 = true) (hs : ∀ u r, s = Value.int u :: r → Nat.ble (ex_w r) 8 = true) : ex_math 1000003 nx e (.int v :: s) h = ex_go nx e (.int (bif ex_lt v 0 then -v else v) :: s) h := by
  unfold ex_math
  split
  · rename_i h1
    cases h1
    rw [hs _ _ rfl, ex_beq_n (show 1000003 ≠ 1000001 by omega), ex_beq_n (show 1000003 ≠ 1000002 by omega), Nat.beq_refl]
    rfl
  · rename_i h1
    cases h1
    rw [hw, Nat.beq_refl]
    rfl
  · rename_i h1
    cases h1
  · rename_i h1 h2 h3
    exact absurd rfl (h2 v s)
theorem w_abs {i y : Nat} (hc : ex_cd M.2.2.2.2 pc = some (.invokestatic i, 1000003, y, z, nx)) (hw : Nat.ble (ex_w (st.map w_cv)) 8 = true) (h : w_W G d M t nx lv ((0, if a < 0 then w_32 (-a) else a) :: st) m Q) : w_W G d M t pc lv ((0, a) :: st) m Q :=
  w_goS hc (fun _ _ s => w_nsc (show w_r 0 _ by split; exact w_32_r _; exact w_ns1 s) (w_nst s)) (fun _ _ s e _ => by
    refine (ex_callS_m (by omega)).trans ((w_abs_step hw (fun u r q => ?_)).trans ?_)
    · have : ex_w (Value.int u :: r) = 1 + ex_w r := rfl
      rw [q, this] at hw
      exact Nat.ble_eq.mpr (by have := Nat.le_of_ble_eq_true hw; omega)
    · show ex_go nx e (.int (bif ex_lt (Int32.ofInt a) 0 then -Int32.ofInt a else Int32.ofInt a) :: st.map w_cv) _ = some (.inl (nx, e, .int (Int32.ofInt (if a < 0 then w_32 (-a) else a)) :: st.map w_cv, _))
      by_cases q : a < 0
      · rw [show ex_lt (Int32.ofInt a) 0 = true from w_bT ex_lt_t (w_i_lt (b := 0) (w_ns1 s) w_r0) q, if_pos q, w_i_32, Int32.ofInt_neg]
        rfl
      · rw [show ex_lt (Int32.ofInt a) 0 = false from w_bF ex_lt_t (w_i_lt (b := 0) (w_ns1 s) w_r0) q, if_neg q]
        rfl) h
-- Strings as such
theorem w_isS' {i y : Nat} {fs : List Nat} (hc : ex_cd M.2.2.2.2 pc = some (.instanceof i, 13, y, z, nx)) (hs : w_sh G a.toNat = some (.inl (13, fs))) (h : w_W G d M t nx lv ((0, 1) :: st) m Q) : w_W G d M t pc lv ((2, a) :: st) m Q :=
  w_goS hc (fun _ _ s => w_nsc (show w_r 0 1 from ⟨by decide, by decide⟩) (w_nst s)) (fun n _ s e _ => by
    show (match ex_get (w_g G) (w_hp G m) a.toNat with | some (.inl (13, _)) => bif Nat.beq 13 13 then ex_go nx e (.int 1 :: st.map w_cv) (w_hp G m) else none | _ => none) = _
    rw [w_get n hs]
    rfl) h
theorem w_asS {i y : Nat} {fs : List Nat} (hc : ex_cd M.2.2.2.2 pc = some (.checkcast i, 13, y, z, nx)) (hs : w_sh G a.toNat = some (.inl (13, fs))) (h : w_W G d M t nx lv ((2, a) :: st) m Q) : w_W G d M t pc lv ((2, a) :: st) m Q :=
  w_goS hc (fun _ _ s => s) (fun n _ s e _ => by
    show (match ex_get (w_g G) (w_hp G m) a.toNat with | some (.inl (13, _)) => bif Nat.beq 13 13 then ex_go nx e (.ref a.toNat :: st.map w_cv) (w_hp G m) else none | _ => none) = _
    rw [w_get n hs]
    rfl) h
end WC
