/-! ===== the machine follows the interpreter: an instruction that goes on, one that returns ===== -/
section EXN
variable {p : Program} {l : Launch} {e : Env} {R : Room} {s : State} {m : MethodId} {args : Array Value} {below : List Frame} {meth : Method} {c : Code} {H : Heap} {locs : List Loc} {cells slots : Nat} {Q : State → Prop}
variable {cc : ByteArray} {pc : Nat} {ls : Array Slot} {rest : List Value} {g : ex_G} {o : ex_P} {nL n0 s0 : Nat} {rt : Option FieldType} {own mn : String} {h : ex_H}
theorem va_ldcSW (hexec : p.tables.exec = Jvm.exec) (hb : c.code = cc) {tx : String} {index q : Nat} (hown : s.vm.findClass own = some m.cls) (hZ : vk_R own index tx q s) (hdg : decode cc pc = .ok (.ldc_w index, 3))
    (k : W p l e R s m args below meth c H locs cells slots Q (F0 m (pc + 3) ls (.ref q :: rest))) : W p l e R s m args below meth c H locs cells slots Q (F0 m pc ls rest) := by
  intro T hT X
  obtain ⟨t, a1, b1⟩ := k T hT X
  exact ⟨t, X.ldcStringW hexec hown (text := tx) (a := q) hZ.1 hZ.2 (g := F0 m pc ls rest) rfl (by rw [hb]; exact hdg) t a1, b1⟩
theorem ex_tsw_v {d lo hi : Int} {offs : Array Int} {lv : ex_V} {st : List Value} {q : ex_O} (hq : ex_tsw d lo hi offs pc lv st h = some q) : ∃ x r, st = .int x :: r ∧ (((x.toInt < lo ∨ hi < x.toInt) ∧ ∃ t : Nat, (pc : Int) + d = (t : Int) ∧ q = .inl (t, lv, r, h)) ∨ (¬ (x.toInt < lo ∨ hi < x.toInt) ∧ ∃ (off : Int) (t : Nat), offs[(x.toInt - lo).toNat]? = some off ∧ (pc : Int) + off = (t : Int) ∧ q = .inl (t, lv, r, h))) := by
  unfold ex_tsw at hq
  split at hq
  · rename_i x r
    refine ⟨x, r, rfl, ?_⟩
    by_cases hx : x.toInt < lo ∨ hi < x.toInt
    · rw [show decide (x.toInt < lo ∨ hi < x.toInt) = true from decide_eq_true hx] at hq
      exact Or.inl ⟨hx, ex_to_v hq⟩
    · rw [show decide (x.toInt < lo ∨ hi < x.toInt) = false from decide_eq_false hx] at hq
      simp only [cond_false] at hq
      split at hq
      · rename_i off hoff
        obtain ⟨t, h1, h2⟩ := ex_to_v hq
        exact Or.inr ⟨hx, off, t, hoff, h1, h2⟩
      · cases hq
  · cases hq
theorem ex_lsw_v {d : Int} {ps : Array (Int × Int)} {lv : ex_V} {st : List Value} {q : ex_O} (hq : ex_lsw d ps pc lv st h = some q) : ∃ (x : Int32) (r : List Value) (t : Nat), st = .int x :: r ∧ (pc : Int) + Op.lookupswitch.offset ps.toList d x.toInt = (t : Int) ∧ q = .inl (t, lv, r, h) := by
  unfold ex_lsw at hq
  split at hq
  · rename_i x r
    obtain ⟨t, h1, h2⟩ := ex_to_v hq
    exact ⟨x, r, t, rfl, h1, h2⟩
  · cases hq
theorem ex_kxld (C : ex_Cx g o p s m args meth c cc nL rt own mn R) (hW : ex_Wd g o h H) (hS : va_S (ex_A o) s.heap H locs) {i n : Nat} {j : Int32} {f : Nat → Int32} (hi : ex_get g h i = some (.inr (0, n, .inl f))) (hin : vp_in j n) (hdg : decode cc pc = .ok (.iaload, 1))
    (kk : W p l e R s m args below meth c H locs cells slots Q (F0 m (pc + 1) ls (.int (f j.toNatClampNeg) :: rest))) : W p l e R s m args below meth c H locs cells slots Q (F0 m pc ls (.int j :: .ref (ex_ad g o i) :: rest)) := by
  obtain ⟨hx, hb, hml, hown, hts, hK, hX, hlocks, hr, hmn, hco, hBs, hRf, hRl⟩ := C
  rcases ex_get_spec hi with ⟨hlo, hxt⟩ | hi
  · have e1 : ex_ad g o i = o.2.2.1 i := by unfold ex_ad; rw [if_pos hlo]
    rw [e1]
    obtain ⟨-, -, hT⟩ := hX.1 i _ hlo hxt
    exact va_ti hx hb hT hS hin rfl hdg kk
  · exact va_iald hx hb hK (ex_one (hW.at hi)) 0 0 rfl rfl hin hdg kk
theorem ex_kbld (C : ex_Cx g o p s m args meth c cc nL rt own mn R) (hW : ex_Wd g o h H) (hS : va_S (ex_A o) s.heap H locs) {i n t : Nat} {j : Int32} {f : Nat → Int32} (hi : ex_get g h i = some (.inr (t, n, .inl f))) (ht : t = 1 ∨ t = 2) (hin : vp_in j n) (hdg : decode cc pc = .ok (.baload, 1))
    (kk : W p l e R s m args below meth c H locs cells slots Q (F0 m (pc + 1) ls (.int (f j.toNatClampNeg) :: rest))) : W p l e R s m args below meth c H locs cells slots Q (F0 m pc ls (.int j :: .ref (ex_ad g o i) :: rest)) := by
  obtain ⟨hx, hb, hml, hown, hts, hK, hX, hlocks, hr, hmn, hco, hBs, hRf, hRl⟩ := C
  rcases ex_get_spec hi with ⟨hlo, hxt⟩ | hi
  · have e1 : ex_ad g o i = o.2.2.1 i := by unfold ex_ad; rw [if_pos hlo]
    rw [e1]
    obtain ⟨h01, -, hT⟩ := hX.1 i _ hlo hxt
    have e2 : t = 1 := by omega
    subst e2
    exact va_tb hx hb hT hS hin rfl hdg kk
  · rcases ht with rfl | rfl
    · exact va_bald hx hb hK (ex_one (hW.at hi)) 0 1 rfl rfl hin hdg kk
    · exact va_zald hx hb hK (ex_one (hW.at hi)) 0 2 rfl rfl hin hdg kk
theorem ex_klen (C : ex_Cx g o p s m args meth c cc nL rt own mn R) (hW : ex_Wd g o h H) (hS : va_S (ex_A o) s.heap H locs) {i n t : Nat} {f} (hi : ex_get g h i = some (.inr (t, n, f))) (ht : t < 5) (hdg : decode cc pc = .ok (.arraylength, 1))
    (kk : W p l e R s m args below meth c H locs cells slots Q (F0 m (pc + 1) ls (.int (Int32.ofNat n) :: rest))) : W p l e R s m args below meth c H locs cells slots Q (F0 m pc ls (.ref (ex_ad g o i) :: rest)) := by
  obtain ⟨hx, hb, hml, hown, hts, hK, hX, hlocks, hr, hmn, hco, hBs, hRf, hRl⟩ := C
  rcases ex_get_spec hi with ⟨hlo, hxt⟩ | hi
  · have e1 : ex_ad g o i = o.2.2.1 i := by unfold ex_ad; rw [if_pos hlo]
    rw [e1]
    have h1 := hX.1 i _ hlo hxt
    match f, h1 with
    | .inl f, h1 => exact va_tlen hx hb h1.2.2 hS rfl hdg kk
    | .inr f, h1 => exact False.elim h1
  · have ha := ex_one (hW.at hi)
    match t, ht with
    | 0, _ => exact va_alen hx hb hK ha 0 0 rfl rfl rfl hdg kk
    | 1, _ => exact va_alen hx hb hK ha 0 1 rfl rfl rfl hdg kk
    | 2, _ => exact va_alen hx hb hK ha 0 2 rfl rfl rfl hdg kk
    | 3, _ => exact va_alen hx hb hK ha 0 3 rfl rfl rfl hdg kk
    | 4, _ => exact va_alen hx hb hK ha 0 4 rfl rfl rfl hdg kk
set_option maxHeartbeats 4000000 in
/-- an instruction that goes on -/
theorem ex_next {P : Nat → Option ex_M} (C : ex_Cx g o p s m args meth c cc nL rt own mn R) {ins : Instr} {x y z nx : Nat} {lv : ex_V} {st : List Value} {f : ex_F} (hd : ex_dec cc pc (ins, x, y, z, nx)) (hk : ex_lk g P own mn pc (ins, x, y, z, nx)) (hs : ex_step g nL rt (ins, x, y, z, nx) pc lv st h = some (.inl f))
    (hA : ex_At g o nL n0 s0 s.heap (pc, lv, st, h) H ls locs cells slots) (hm1 : f.2.2.2.1.length ≤ R.cells + n0) (hm2 : f.2.2.2.2 ≤ R.slots + s0)
    (kk : ∀ (H1 : Heap) (ls1 : Array Slot) (locs1 : List Loc) (cells1 slots1 : Nat), ex_At g o nL n0 s0 s.heap f H1 ls1 locs1 cells1 slots1 → W p l e R s m args below meth c H1 locs1 cells1 slots1 Q (F0 m f.1 ls1 (f.2.2.1.map (ex_cv g o)))) :
    W p l e R s m args below meth c H locs cells slots Q (F0 m pc ls (st.map (ex_cv g o))) := by
  have C0 := C
  obtain ⟨hx, hb, hml, hown, hts, hK, hX, hlocks, hr, hmn, hco, hBs, hRf, hRl⟩ := C
  obtain ⟨hl, hW, hS, hc, hsl⟩ := id hA
  cases ins with
  | iconst n =>
    obtain ⟨hdg, hnx⟩ : decode cc pc = .ok (.iconst n, 1) ∧ nx = pc + 1 := hd
    subst hnx
    cases (show ex_go (pc + 1) lv (.int (Int32.ofInt n) :: st) h = some (.inl f) from hs)
    exact lv_iconst (v := Int32.ofInt n) hx hb hdg rfl (kk H ls locs cells slots hA)
  | bipush n =>
    obtain ⟨hdg, hnx⟩ : decode cc pc = .ok (.bipush n, 2) ∧ nx = pc + 2 := hd
    subst hnx
    cases (show ex_go (pc + 2) lv (.int (Int8.ofInt n).toInt32 :: st) h = some (.inl f) from hs)
    exact lv_bipush (v := (Int8.ofInt n).toInt32) hx hb hdg rfl (kk H ls locs cells slots hA)
  | sipush n =>
    obtain ⟨hdg, hnx⟩ : decode cc pc = .ok (.sipush n, 3) ∧ nx = pc + 3 := hd
    subst hnx
    cases (show ex_go (pc + 3) lv (.int (Int16.ofInt n).toInt32 :: st) h = some (.inl f) from hs)
    exact lv_sipush (v := (Int16.ofInt n).toInt32) hx hb hdg rfl (kk H ls locs cells slots hA)
  | lconst n =>
    obtain ⟨hdg, hnx⟩ : decode cc pc = .ok (.lconst n, 1) ∧ nx = pc + 1 := hd
    subst hnx
    cases (show ex_go (pc + 1) lv (.long (Int64.ofNat (n : Nat)) :: st) h = some (.inl f) from hs)
    exact lv_lconst (v := Int64.ofNat (n : Nat)) hx hb hdg rfl (kk H ls locs cells slots hA)
  | ldc i =>
    obtain ⟨hdg, hnx⟩ : decode cc pc = .ok (.ldc i, 2) ∧ nx = pc + 2 := hd
    subst hnx
    have hs : ex_ldc x y (pc + 2) lv st h = some (.inl f) := hs
    rcases (show (y = 0 ∧ Jvm.Cond.constant own i (Int32.ofNat x) ∈ ex_wall) ∨ (y = 1 ∧ ∃ tx, (own, i, x, tx) ∈ g.2.2.1) from hk) with ⟨hy, hw⟩ | ⟨hy, tx, hw⟩
    · subst hy
      cases (show some (Sum.inl (pc + 2, lv, .int (Int32.ofNat x) :: st, h)) = some (Sum.inl f) from hs)
      exact lv_ldc hx hb hown (hts _ hw) hdg (kk H ls locs cells slots hA)
    · subst hy
      cases (show some (Sum.inl (pc + 2, lv, .ref x :: st, h)) = some (Sum.inl f) from hs)
      exact va_ldcS hx hb hown (hX.2.1 _ hw) hdg (kk H ls locs cells slots hA)
  | ldc_w i =>
    obtain ⟨hdg, hnx⟩ : decode cc pc = .ok (.ldc_w i, 3) ∧ nx = pc + 3 := hd
    subst hnx
    have hs : ex_ldc x y (pc + 3) lv st h = some (.inl f) := hs
    rcases (show (y = 0 ∧ Jvm.Cond.constant own i (Int32.ofNat x) ∈ ex_wall) ∨ (y = 1 ∧ ∃ tx, (own, i, x, tx) ∈ g.2.2.1) from hk) with ⟨hy, hw⟩ | ⟨hy, tx, hw⟩
    · subst hy
      cases (show some (Sum.inl (pc + 3, lv, .int (Int32.ofNat x) :: st, h)) = some (Sum.inl f) from hs)
      exact lv_ldcw hx hb hown (hts _ hw) hdg (kk H ls locs cells slots hA)
    · subst hy
      cases (show some (Sum.inl (pc + 3, lv, .ref x :: st, h)) = some (Sum.inl f) from hs)
      exact va_ldcSW hx hb hown (hX.2.1 _ hw) hdg (kk H ls locs cells slots hA)
  | getstatic i =>
    obtain ⟨hdg, hnx⟩ : decode cc pc = .ok (.getstatic i, 3) ∧ nx = pc + 3 := hd
    subst hnx
    have hs : ex_ldc x y (pc + 3) lv st h = some (.inl f) := hs
    obtain ⟨q, hq, hw, hv⟩ : ∃ q ∈ g.2.2.2, Jvm.Cond.fieldLink own i q.1 q.2.1 q.2.2.1 ∈ ex_wall ∧ q.2.2.2 = (bif Nat.beq y 0 then Value.int (Int32.ofNat x) else bif Nat.beq y 1 then Value.ref x else Value.retAddr 0) := hk
    have hZ := hX.2.2.1 q hq
    rw [hv] at hZ
    unfold ex_ldc at hs
    cases hb0 : Nat.beq y 0 with
    | true =>
      rw [hb0] at hs hZ
      cases (show some (Sum.inl (pc + 3, lv, .int (Int32.ofNat x) :: st, h)) = some (Sum.inl f) from hs)
      exact va_gets hx hb hZ hS hown (hts _ hw) (fun _ q => q) hdg (kk H ls locs cells slots hA)
    | false =>
      rw [hb0] at hs hZ
      simp only [cond_false] at hs hZ
      cases hb1 : Nat.beq y 1 with
      | true =>
        rw [hb1] at hs hZ
        cases (show some (Sum.inl (pc + 3, lv, .ref x :: st, h)) = some (Sum.inl f) from hs)
        exact va_gets hx hb hZ hS hown (hts _ hw) (fun _ q => q) hdg (kk H ls locs cells slots hA)
      | false =>
        rw [hb1] at hs hZ
        cases (show some (Sum.inl (pc + 3, lv, .retAddr 0 :: st, h)) = some (Sum.inl f) from hs)
        exact va_gets hx hb hZ hS hown (hts _ hw) (fun _ q => q) hdg (kk H ls locs cells slots hA)
  | ldc2_w i =>
    obtain ⟨hdg, hnx⟩ : decode cc pc = .ok (.ldc2_w i, 3) ∧ nx = pc + 3 := hd
    subst hnx
    cases (show ex_go (pc + 3) lv (.long (Int64.ofNat x) :: st) h = some (.inl f) from hs)
    exact lv_ldc2 hx hb hown (hts _ (show Jvm.Cond.constantLong own i (Int64.ofNat x) ∈ ex_wall from hk)) hdg (kk H ls locs cells slots hA)
  | iload_n k =>
    obtain ⟨hdg, hnx⟩ : decode cc pc = .ok (.iload_n k, 1) ∧ nx = pc + 1 := hd
    subst hnx
    obtain ⟨v, hv, e1⟩ := ex_ild_v (show ex_ild k (pc + 1) lv st h = some (.inl f) from hs)
    cases e1
    exact lv_iload_n hx hb hdg rfl (ex_ls hl hv) (kk H ls locs cells slots hA)
  | iload k =>
    obtain ⟨hdg, hnx⟩ : decode cc pc = .ok (.iload k, 2) ∧ nx = pc + 2 := hd
    subst hnx
    obtain ⟨v, hv, e1⟩ := ex_ild_v (show ex_ild k (pc + 2) lv st h = some (.inl f) from hs)
    cases e1
    exact lv_iload hx hb hdg (ex_ls hl hv) (kk H ls locs cells slots hA)
  | lload_n k =>
    obtain ⟨hdg, hnx⟩ : decode cc pc = .ok (.lload_n k, 1) ∧ nx = pc + 1 := hd
    subst hnx
    obtain ⟨v, hv, e1⟩ := ex_lld1_v (show ex_lld1 k (pc + 1) lv st h = some (.inl f) from hs)
    cases e1
    exact lv_lload_n hx hb hdg rfl (ex_ls hl hv) (kk H ls locs cells slots hA)
  | lload k =>
    obtain ⟨hdg, hnx⟩ : decode cc pc = .ok (.lload k, 2) ∧ nx = pc + 2 := hd
    subst hnx
    obtain ⟨v, hv, e1⟩ := ex_lld1_v (show ex_lld1 k (pc + 2) lv st h = some (.inl f) from hs)
    cases e1
    exact lv_lload hx hb hdg (ex_ls hl hv) (kk H ls locs cells slots hA)
  | aload_n k =>
    obtain ⟨hdg, hnx⟩ : decode cc pc = .ok (.aload_n k, 1) ∧ nx = pc + 1 := hd
    subst hnx
    obtain ⟨v, hv, e1⟩ := ex_ald_v (show ex_ald k (pc + 1) lv st h = some (.inl f) from hs)
    cases e1
    exact lv_aload_n hx hb hdg rfl (ex_ls hl hv) (kk H ls locs cells slots hA)
  | aload k =>
    obtain ⟨hdg, hnx⟩ : decode cc pc = .ok (.aload k, 2) ∧ nx = pc + 2 := hd
    subst hnx
    obtain ⟨v, hv, e1⟩ := ex_ald_v (show ex_ald k (pc + 2) lv st h = some (.inl f) from hs)
    cases e1
    exact lv_aload hx hb hdg (ex_ls hl hv) (kk H ls locs cells slots hA)
  | istore_n k =>
    obtain ⟨hdg, hnx⟩ : decode cc pc = .ok (.istore_n k, 1) ∧ nx = pc + 1 := hd
    subst hnx
    obtain ⟨v, r, hlt, rfl, e1⟩ := ex_ist_v (show ex_ist nL k (pc + 1) lv st h = some (.inl f) from hs)
    cases e1
    exact lv_istore_n (lv' := ex_lm g o (ex_s1 lv k (.int v))) hx hb hdg rfl hl hlt (ex_lm_s1 g o lv k (.int v)) (fun ls1 hl1 => kk H ls1 locs cells slots ⟨hl1, hW, hS, hc, hsl⟩)
  | istore k =>
    obtain ⟨hdg, hnx⟩ : decode cc pc = .ok (.istore k, 2) ∧ nx = pc + 2 := hd
    subst hnx
    obtain ⟨v, r, hlt, rfl, e1⟩ := ex_ist_v (show ex_ist nL k (pc + 2) lv st h = some (.inl f) from hs)
    cases e1
    exact lv_istore (lv' := ex_lm g o (ex_s1 lv k (.int v))) hx hb hdg hl hlt (ex_lm_s1 g o lv k (.int v)) (fun ls1 hl1 => kk H ls1 locs cells slots ⟨hl1, hW, hS, hc, hsl⟩)
  | lstore_n k =>
    obtain ⟨hdg, hnx⟩ : decode cc pc = .ok (.lstore_n k, 1) ∧ nx = pc + 1 := hd
    subst hnx
    obtain ⟨v, r, hlt, rfl, e1⟩ := ex_lst_v (show ex_lst nL k (pc + 1) lv st h = some (.inl f) from hs)
    cases e1
    exact lv_lstore_n (lv' := ex_lm g o (ex_s2 lv k (.long v))) hx hb hdg rfl hl hlt (ex_lm_s2 g o lv k (.long v)) (fun ls1 hl1 => kk H ls1 locs cells slots ⟨hl1, hW, hS, hc, hsl⟩)
  | lstore k =>
    obtain ⟨hdg, hnx⟩ : decode cc pc = .ok (.lstore k, 2) ∧ nx = pc + 2 := hd
    subst hnx
    obtain ⟨v, r, hlt, rfl, e1⟩ := ex_lst_v (show ex_lst nL k (pc + 2) lv st h = some (.inl f) from hs)
    cases e1
    exact lv_lstore (lv' := ex_lm g o (ex_s2 lv k (.long v))) hx hb hdg hl hlt (ex_lm_s2 g o lv k (.long v)) (fun ls1 hl1 => kk H ls1 locs cells slots ⟨hl1, hW, hS, hc, hsl⟩)
  | astore_n k =>
    obtain ⟨hdg, hnx⟩ : decode cc pc = .ok (.astore_n k, 1) ∧ nx = pc + 1 := hd
    subst hnx
    obtain ⟨v, r, hlt, rfl, e1⟩ := ex_ast_v (show ex_ast nL k (pc + 1) lv st h = some (.inl f) from hs)
    cases e1
    exact lv_astore_n (lv' := ex_lm g o (ex_s1 lv k (.ref v))) hx hb hdg rfl hl hlt (ex_lm_s1 g o lv k (.ref v)) (fun ls1 hl1 => kk H ls1 locs cells slots ⟨hl1, hW, hS, hc, hsl⟩)
  | astore k =>
    obtain ⟨hdg, hnx⟩ : decode cc pc = .ok (.astore k, 2) ∧ nx = pc + 2 := hd
    subst hnx
    obtain ⟨v, r, hlt, rfl, e1⟩ := ex_ast_v (show ex_ast nL k (pc + 2) lv st h = some (.inl f) from hs)
    cases e1
    exact lv_astore (lv' := ex_lm g o (ex_s1 lv k (.ref v))) hx hb hdg hl hlt (ex_lm_s1 g o lv k (.ref v)) (fun ls1 hl1 => kk H ls1 locs cells slots ⟨hl1, hW, hS, hc, hsl⟩)
  | iinc k n =>
    obtain ⟨hdg, hnx⟩ : decode cc pc = .ok (.iinc k n, 3) ∧ nx = pc + 3 := hd
    subst hnx
    obtain ⟨v, hlt, hv, e1⟩ := ex_inc_v (show ex_inc nL k n (pc + 3) lv st h = some (.inl f) from hs)
    cases e1
    obtain ⟨kx, hkx⟩ := List.getElem?_of_mem (show (k, Value.int v) ∈ ex_lm g o lv from List.mem_map.mpr ⟨(k, .int v), ex_at_mem hv, rfl⟩)
    exact lv_iinc (v := v + Int32.ofInt n) (lv' := ex_lm g o (ex_s1 lv k (.int (ex_add v (Int32.ofInt n))))) hx hb hdg hl hkx rfl hlt (ex_lm_s1 g o lv k (.int (ex_add v (Int32.ofInt n)))) (fun ls1 hl1 => kk H ls1 locs cells slots ⟨hl1, hW, hS, hc, hsl⟩)
  | iadd =>
    obtain ⟨hdg, hnx⟩ : decode cc pc = .ok (.iadd, 1) ∧ nx = pc + 1 := hd
    subst hnx
    obtain ⟨a, b, r, rfl, e1⟩ := ex_ii_v (show ex_ii ex_add (pc + 1) lv st h = some (.inl f) from hs)
    cases e1
    exact lv_iadd hx hb hdg (kk H ls locs cells slots hA)
  | isub =>
    obtain ⟨hdg, hnx⟩ : decode cc pc = .ok (.isub, 1) ∧ nx = pc + 1 := hd
    subst hnx
    obtain ⟨a, b, r, rfl, e1⟩ := ex_ii_v (show ex_ii ex_sub (pc + 1) lv st h = some (.inl f) from hs)
    cases e1
    exact lv_isub hx hb hdg (kk H ls locs cells slots hA)
  | imul =>
    obtain ⟨hdg, hnx⟩ : decode cc pc = .ok (.imul, 1) ∧ nx = pc + 1 := hd
    subst hnx
    obtain ⟨a, b, r, rfl, e1⟩ := ex_ii_v (show ex_ii (fun x y => x * y) (pc + 1) lv st h = some (.inl f) from hs)
    cases e1
    exact lv_imul hx hb hdg (kk H ls locs cells slots hA)
  | iand =>
    obtain ⟨hdg, hnx⟩ : decode cc pc = .ok (.iand, 1) ∧ nx = pc + 1 := hd
    subst hnx
    obtain ⟨a, b, r, rfl, e1⟩ := ex_ii_v (show ex_ii (fun x y => x &&& y) (pc + 1) lv st h = some (.inl f) from hs)
    cases e1
    exact lv_iand hx hb hdg (kk H ls locs cells slots hA)
  | ior =>
    obtain ⟨hdg, hnx⟩ : decode cc pc = .ok (.ior, 1) ∧ nx = pc + 1 := hd
    subst hnx
    obtain ⟨a, b, r, rfl, e1⟩ := ex_ii_v (show ex_ii (fun x y => x ||| y) (pc + 1) lv st h = some (.inl f) from hs)
    cases e1
    exact lv_ior hx hb hdg (kk H ls locs cells slots hA)
  | ixor =>
    obtain ⟨hdg, hnx⟩ : decode cc pc = .ok (.ixor, 1) ∧ nx = pc + 1 := hd
    subst hnx
    obtain ⟨a, b, r, rfl, e1⟩ := ex_ii_v (show ex_ii (fun x y => x ^^^ y) (pc + 1) lv st h = some (.inl f) from hs)
    cases e1
    exact lv_ixor hx hb hdg (kk H ls locs cells slots hA)
  | ishl =>
    obtain ⟨hdg, hnx⟩ : decode cc pc = .ok (.ishl, 1) ∧ nx = pc + 1 := hd
    subst hnx
    obtain ⟨a, b, r, rfl, e1⟩ := ex_ii_v (show ex_ii (fun x y => x <<< (y &&& 31)) (pc + 1) lv st h = some (.inl f) from hs)
    cases e1
    exact lv_ishl hx hb hdg (kk H ls locs cells slots hA)
  | ishr =>
    obtain ⟨hdg, hnx⟩ : decode cc pc = .ok (.ishr, 1) ∧ nx = pc + 1 := hd
    subst hnx
    obtain ⟨a, b, r, rfl, e1⟩ := ex_ii_v (show ex_ii (fun x y => x >>> (y &&& 31)) (pc + 1) lv st h = some (.inl f) from hs)
    cases e1
    exact lv_ishr hx hb hdg (kk H ls locs cells slots hA)
  | iushr =>
    obtain ⟨hdg, hnx⟩ : decode cc pc = .ok (.iushr, 1) ∧ nx = pc + 1 := hd
    subst hnx
    obtain ⟨a, b, r, rfl, e1⟩ := ex_ii_v (show ex_ii (fun x y => (x.toUInt32 >>> (y.toUInt32 &&& Int32.toUInt32 31)).toInt32) (pc + 1) lv st h = some (.inl f) from hs)
    cases e1
    exact lv_iushr hx hb hdg rfl (kk H ls locs cells slots hA)
  | idiv =>
    obtain ⟨hdg, hnx⟩ : decode cc pc = .ok (.idiv, 1) ∧ nx = pc + 1 := hd
    subst hnx
    obtain ⟨a, b, r, hne, rfl, e1⟩ := ex_iid_v (show ex_iid (fun x y => x / y) (pc + 1) lv st h = some (.inl f) from hs)
    cases e1
    exact lv_idiv hx hb hdg hne (kk H ls locs cells slots hA)
  | irem =>
    obtain ⟨hdg, hnx⟩ : decode cc pc = .ok (.irem, 1) ∧ nx = pc + 1 := hd
    subst hnx
    obtain ⟨a, b, r, hne, rfl, e1⟩ := ex_iid_v (show ex_iid (fun x y => x - x / y * y) (pc + 1) lv st h = some (.inl f) from hs)
    cases e1
    exact lv_irem hx hb hdg hne (kk H ls locs cells slots hA)
  | ladd =>
    obtain ⟨hdg, hnx⟩ : decode cc pc = .ok (.ladd, 1) ∧ nx = pc + 1 := hd
    subst hnx
    obtain ⟨a, b, r, rfl, e1⟩ := ex_ll_v (show ex_ll (fun x y => x + y) (pc + 1) lv st h = some (.inl f) from hs)
    cases e1
    exact lv_ladd hx hb hdg (kk H ls locs cells slots hA)
  | lsub =>
    obtain ⟨hdg, hnx⟩ : decode cc pc = .ok (.lsub, 1) ∧ nx = pc + 1 := hd
    subst hnx
    obtain ⟨a, b, r, rfl, e1⟩ := ex_ll_v (show ex_ll (fun x y => x - y) (pc + 1) lv st h = some (.inl f) from hs)
    cases e1
    exact lv_lsub hx hb hdg (kk H ls locs cells slots hA)
  | lmul =>
    obtain ⟨hdg, hnx⟩ : decode cc pc = .ok (.lmul, 1) ∧ nx = pc + 1 := hd
    subst hnx
    obtain ⟨a, b, r, rfl, e1⟩ := ex_ll_v (show ex_ll (fun x y => x * y) (pc + 1) lv st h = some (.inl f) from hs)
    cases e1
    exact lv_lmul hx hb hdg (kk H ls locs cells slots hA)
  | land =>
    obtain ⟨hdg, hnx⟩ : decode cc pc = .ok (.land, 1) ∧ nx = pc + 1 := hd
    subst hnx
    obtain ⟨a, b, r, rfl, e1⟩ := ex_ll_v (show ex_ll (fun x y => x &&& y) (pc + 1) lv st h = some (.inl f) from hs)
    cases e1
    exact lv_land hx hb hdg (kk H ls locs cells slots hA)
  | lor =>
    obtain ⟨hdg, hnx⟩ : decode cc pc = .ok (.lor, 1) ∧ nx = pc + 1 := hd
    subst hnx
    obtain ⟨a, b, r, rfl, e1⟩ := ex_ll_v (show ex_ll (fun x y => x ||| y) (pc + 1) lv st h = some (.inl f) from hs)
    cases e1
    exact lv_lor hx hb hdg (kk H ls locs cells slots hA)
  | lxor =>
    obtain ⟨hdg, hnx⟩ : decode cc pc = .ok (.lxor, 1) ∧ nx = pc + 1 := hd
    subst hnx
    obtain ⟨a, b, r, rfl, e1⟩ := ex_ll_v (show ex_ll (fun x y => x ^^^ y) (pc + 1) lv st h = some (.inl f) from hs)
    cases e1
    exact lv_lxor hx hb hdg (kk H ls locs cells slots hA)
  | ldiv =>
    obtain ⟨hdg, hnx⟩ : decode cc pc = .ok (.ldiv, 1) ∧ nx = pc + 1 := hd
    subst hnx
    obtain ⟨a, b, r, hne, rfl, e1⟩ := ex_lld_v (show ex_lld (fun x y => x / y) (pc + 1) lv st h = some (.inl f) from hs)
    cases e1
    exact lv_ldiv hx hb hdg hne (kk H ls locs cells slots hA)
  | lrem =>
    obtain ⟨hdg, hnx⟩ : decode cc pc = .ok (.lrem, 1) ∧ nx = pc + 1 := hd
    subst hnx
    obtain ⟨a, b, r, hne, rfl, e1⟩ := ex_lld_v (show ex_lld (fun x y => x - x / y * y) (pc + 1) lv st h = some (.inl f) from hs)
    cases e1
    exact lv_lrem hx hb hdg hne (kk H ls locs cells slots hA)
  | lshl =>
    obtain ⟨hdg, hnx⟩ : decode cc pc = .ok (.lshl, 1) ∧ nx = pc + 1 := hd
    subst hnx
    obtain ⟨a, b, r, rfl, e1⟩ := ex_li_v (show ex_li (fun x y => x <<< (y.toInt64 &&& 63)) (pc + 1) lv st h = some (.inl f) from hs)
    cases e1
    exact lv_lshl hx hb hdg rfl (kk H ls locs cells slots hA)
  | lshr =>
    obtain ⟨hdg, hnx⟩ : decode cc pc = .ok (.lshr, 1) ∧ nx = pc + 1 := hd
    subst hnx
    obtain ⟨a, b, r, rfl, e1⟩ := ex_li_v (show ex_li (fun x y => x >>> (y.toInt64 &&& 63)) (pc + 1) lv st h = some (.inl f) from hs)
    cases e1
    exact lv_lshr hx hb hdg rfl (kk H ls locs cells slots hA)
  | lushr =>
    obtain ⟨hdg, hnx⟩ : decode cc pc = .ok (.lushr, 1) ∧ nx = pc + 1 := hd
    subst hnx
    obtain ⟨a, b, r, rfl, e1⟩ := ex_li_v (show ex_li (fun x y => (x.toUInt64 >>> (y.toInt64.toUInt64 &&& Int64.toUInt64 63)).toInt64) (pc + 1) lv st h = some (.inl f) from hs)
    cases e1
    exact lv_lushr hx hb hdg rfl (kk H ls locs cells slots hA)
  | ineg =>
    obtain ⟨hdg, hnx⟩ : decode cc pc = .ok (.ineg, 1) ∧ nx = pc + 1 := hd
    subst hnx
    obtain ⟨a, r, rfl, e1⟩ := ex_i_v (show ex_i (fun x => .int (-x)) (pc + 1) lv st h = some (.inl f) from hs)
    cases e1
    exact lv_ineg hx hb hdg (kk H ls locs cells slots hA)
  | i2l =>
    obtain ⟨hdg, hnx⟩ : decode cc pc = .ok (.i2l, 1) ∧ nx = pc + 1 := hd
    subst hnx
    obtain ⟨a, r, rfl, e1⟩ := ex_i_v (show ex_i (fun x => .long x.toInt64) (pc + 1) lv st h = some (.inl f) from hs)
    cases e1
    exact lv_i2l hx hb hdg rfl (kk H ls locs cells slots hA)
  | i2b =>
    obtain ⟨hdg, hnx⟩ : decode cc pc = .ok (.i2b, 1) ∧ nx = pc + 1 := hd
    subst hnx
    obtain ⟨a, r, rfl, e1⟩ := ex_i_v (show ex_i (fun x => .int x.toInt8.toInt32) (pc + 1) lv st h = some (.inl f) from hs)
    cases e1
    exact lv_i2b hx hb hdg rfl (kk H ls locs cells slots hA)
  | i2c =>
    obtain ⟨hdg, hnx⟩ : decode cc pc = .ok (.i2c, 1) ∧ nx = pc + 1 := hd
    subst hnx
    obtain ⟨a, r, rfl, e1⟩ := ex_i_v (show ex_i (fun x => .int (x.toUInt32 % 65536).toInt32) (pc + 1) lv st h = some (.inl f) from hs)
    cases e1
    exact lv_i2c hx hb hdg rfl (kk H ls locs cells slots hA)
  | lneg =>
    obtain ⟨hdg, hnx⟩ : decode cc pc = .ok (.lneg, 1) ∧ nx = pc + 1 := hd
    subst hnx
    obtain ⟨a, r, rfl, e1⟩ := ex_l_v (show ex_l (fun x => .long (-x)) (pc + 1) lv st h = some (.inl f) from hs)
    cases e1
    exact lv_lneg hx hb hdg (kk H ls locs cells slots hA)
  | l2i =>
    obtain ⟨hdg, hnx⟩ : decode cc pc = .ok (.l2i, 1) ∧ nx = pc + 1 := hd
    subst hnx
    obtain ⟨a, r, rfl, e1⟩ := ex_l_v (show ex_l (fun x => .int x.toInt32) (pc + 1) lv st h = some (.inl f) from hs)
    cases e1
    exact lv_l2i hx hb hdg rfl (kk H ls locs cells slots hA)
  | lcmp =>
    obtain ⟨hdg, hnx⟩ : decode cc pc = .ok (.lcmp, 1) ∧ nx = pc + 1 := hd
    subst hnx
    obtain ⟨a, b, r, rfl, e1⟩ := ex_lc_v (show ex_lc (pc + 1) lv st h = some (.inl f) from hs)
    cases e1
    exact W.lcmp hx hb hdg (kk H ls locs cells slots hA)
  | ifCond cnd off =>
    cases cnd with
    | eq =>
      obtain ⟨hdg, hnx⟩ : decode cc pc = .ok (.ifCond .eq off, 3) ∧ nx = pc + 3 := hd
      subst hnx
      obtain ⟨a, r, rfl, ⟨hc1, e1⟩ | ⟨hc1, e1⟩⟩ := ex_if_v (show ex_if ex_eq0 x (pc + 3) lv st h = some (.inl f) from hs)
      · cases e1
        exact lv_if_eq hx hb hdg (show (pc : Int) + off = (x : Int) from hk) (fun _ => kk H ls locs cells slots hA) (fun q => absurd (ex_eq0_t.mp hc1) q)
      · cases e1
        exact lv_if_eq hx hb hdg (show (pc : Int) + off = (x : Int) from hk) (fun q => absurd q ((ex_bF ex_eq0_t).mp hc1)) (fun _ => kk H ls locs cells slots hA)
    | ne =>
      obtain ⟨hdg, hnx⟩ : decode cc pc = .ok (.ifCond .ne off, 3) ∧ nx = pc + 3 := hd
      subst hnx
      obtain ⟨a, r, rfl, ⟨hc1, e1⟩ | ⟨hc1, e1⟩⟩ := ex_if_v (show ex_if ex_ne0 x (pc + 3) lv st h = some (.inl f) from hs)
      · cases e1
        exact lv_if_ne hx hb hdg (show (pc : Int) + off = (x : Int) from hk) (fun _ => kk H ls locs cells slots hA) (fun q => absurd q (ex_ne0_t.mp hc1))
      · cases e1
        exact lv_if_ne hx hb hdg (show (pc : Int) + off = (x : Int) from hk) (fun q => absurd q ((ex_bF ex_ne0_t).mp hc1)) (fun _ => kk H ls locs cells slots hA)
    | lt =>
      obtain ⟨hdg, hnx⟩ : decode cc pc = .ok (.ifCond .lt off, 3) ∧ nx = pc + 3 := hd
      subst hnx
      obtain ⟨a, r, rfl, ⟨hc1, e1⟩ | ⟨hc1, e1⟩⟩ := ex_if_v (show ex_if ex_lt0 x (pc + 3) lv st h = some (.inl f) from hs)
      · cases e1
        exact lv_if_lt hx hb hdg (show (pc : Int) + off = (x : Int) from hk) (fun _ => kk H ls locs cells slots hA) (fun q => absurd (ex_lt0_t.mp hc1) q)
      · cases e1
        exact lv_if_lt hx hb hdg (show (pc : Int) + off = (x : Int) from hk) (fun q => absurd q ((ex_bF ex_lt0_t).mp hc1)) (fun _ => kk H ls locs cells slots hA)
    | ge =>
      obtain ⟨hdg, hnx⟩ : decode cc pc = .ok (.ifCond .ge off, 3) ∧ nx = pc + 3 := hd
      subst hnx
      obtain ⟨a, r, rfl, ⟨hc1, e1⟩ | ⟨hc1, e1⟩⟩ := ex_if_v (show ex_if ex_ge0 x (pc + 3) lv st h = some (.inl f) from hs)
      · cases e1
        exact lv_if_ge hx hb hdg (show (pc : Int) + off = (x : Int) from hk) (fun _ => kk H ls locs cells slots hA) (fun q => absurd (ex_ge0_t.mp hc1) q)
      · cases e1
        exact lv_if_ge hx hb hdg (show (pc : Int) + off = (x : Int) from hk) (fun q => absurd q ((ex_bF ex_ge0_t).mp hc1)) (fun _ => kk H ls locs cells slots hA)
    | gt =>
      obtain ⟨hdg, hnx⟩ : decode cc pc = .ok (.ifCond .gt off, 3) ∧ nx = pc + 3 := hd
      subst hnx
      obtain ⟨a, r, rfl, ⟨hc1, e1⟩ | ⟨hc1, e1⟩⟩ := ex_if_v (show ex_if ex_gt0 x (pc + 3) lv st h = some (.inl f) from hs)
      · cases e1
        exact lv_if_gt hx hb hdg (show (pc : Int) + off = (x : Int) from hk) (fun _ => kk H ls locs cells slots hA) (fun q => absurd (ex_gt0_t.mp hc1) q)
      · cases e1
        exact lv_if_gt hx hb hdg (show (pc : Int) + off = (x : Int) from hk) (fun q => absurd q ((ex_bF ex_gt0_t).mp hc1)) (fun _ => kk H ls locs cells slots hA)
    | le =>
      obtain ⟨hdg, hnx⟩ : decode cc pc = .ok (.ifCond .le off, 3) ∧ nx = pc + 3 := hd
      subst hnx
      obtain ⟨a, r, rfl, ⟨hc1, e1⟩ | ⟨hc1, e1⟩⟩ := ex_if_v (show ex_if ex_le0 x (pc + 3) lv st h = some (.inl f) from hs)
      · cases e1
        exact lv_if_le hx hb hdg (show (pc : Int) + off = (x : Int) from hk) (fun _ => kk H ls locs cells slots hA) (fun q => absurd (ex_le0_t.mp hc1) q)
      · cases e1
        exact lv_if_le hx hb hdg (show (pc : Int) + off = (x : Int) from hk) (fun q => absurd q ((ex_bF ex_le0_t).mp hc1)) (fun _ => kk H ls locs cells slots hA)
  | if_icmp cnd off =>
    cases cnd with
    | eq =>
      obtain ⟨hdg, hnx⟩ : decode cc pc = .ok (.if_icmp .eq off, 3) ∧ nx = pc + 3 := hd
      subst hnx
      obtain ⟨a, b, r, rfl, ⟨hc1, e1⟩ | ⟨hc1, e1⟩⟩ := ex_ic_v (show ex_ic ex_eq x (pc + 3) lv st h = some (.inl f) from hs)
      · cases e1
        exact lv_icmp_eq hx hb hdg (show (pc : Int) + off = (x : Int) from hk) (fun _ => kk H ls locs cells slots hA) (fun q => absurd (ex_eq_t.mp hc1) q)
      · cases e1
        exact lv_icmp_eq hx hb hdg (show (pc : Int) + off = (x : Int) from hk) (fun q => absurd q ((ex_bF ex_eq_t).mp hc1)) (fun _ => kk H ls locs cells slots hA)
    | ne =>
      obtain ⟨hdg, hnx⟩ : decode cc pc = .ok (.if_icmp .ne off, 3) ∧ nx = pc + 3 := hd
      subst hnx
      obtain ⟨a, b, r, rfl, ⟨hc1, e1⟩ | ⟨hc1, e1⟩⟩ := ex_ic_v (show ex_ic ex_ne x (pc + 3) lv st h = some (.inl f) from hs)
      · cases e1
        exact lv_icmp_ne hx hb hdg (show (pc : Int) + off = (x : Int) from hk) (fun _ => kk H ls locs cells slots hA) (fun q => absurd q (ex_ne_t.mp hc1))
      · cases e1
        exact lv_icmp_ne hx hb hdg (show (pc : Int) + off = (x : Int) from hk) (fun q => absurd q ((ex_bF ex_ne_t).mp hc1)) (fun _ => kk H ls locs cells slots hA)
    | lt =>
      obtain ⟨hdg, hnx⟩ : decode cc pc = .ok (.if_icmp .lt off, 3) ∧ nx = pc + 3 := hd
      subst hnx
      obtain ⟨a, b, r, rfl, ⟨hc1, e1⟩ | ⟨hc1, e1⟩⟩ := ex_ic_v (show ex_ic ex_lt x (pc + 3) lv st h = some (.inl f) from hs)
      · cases e1
        exact lv_icmp_lt hx hb hdg (show (pc : Int) + off = (x : Int) from hk) (fun _ => kk H ls locs cells slots hA) (fun q => absurd (ex_lt_t.mp hc1) q)
      · cases e1
        exact lv_icmp_lt hx hb hdg (show (pc : Int) + off = (x : Int) from hk) (fun q => absurd q ((ex_bF ex_lt_t).mp hc1)) (fun _ => kk H ls locs cells slots hA)
    | ge =>
      obtain ⟨hdg, hnx⟩ : decode cc pc = .ok (.if_icmp .ge off, 3) ∧ nx = pc + 3 := hd
      subst hnx
      obtain ⟨a, b, r, rfl, ⟨hc1, e1⟩ | ⟨hc1, e1⟩⟩ := ex_ic_v (show ex_ic ex_ge x (pc + 3) lv st h = some (.inl f) from hs)
      · cases e1
        exact lv_icmp_ge hx hb hdg (show (pc : Int) + off = (x : Int) from hk) (fun _ => kk H ls locs cells slots hA) (fun q => absurd (ex_ge_t.mp hc1) q)
      · cases e1
        exact lv_icmp_ge hx hb hdg (show (pc : Int) + off = (x : Int) from hk) (fun q => absurd q ((ex_bF ex_ge_t).mp hc1)) (fun _ => kk H ls locs cells slots hA)
    | gt =>
      obtain ⟨hdg, hnx⟩ : decode cc pc = .ok (.if_icmp .gt off, 3) ∧ nx = pc + 3 := hd
      subst hnx
      obtain ⟨a, b, r, rfl, ⟨hc1, e1⟩ | ⟨hc1, e1⟩⟩ := ex_ic_v (show ex_ic ex_gt x (pc + 3) lv st h = some (.inl f) from hs)
      · cases e1
        exact lv_icmp_gt hx hb hdg (show (pc : Int) + off = (x : Int) from hk) (fun _ => kk H ls locs cells slots hA) (fun q => absurd (ex_gt_t.mp hc1) q)
      · cases e1
        exact lv_icmp_gt hx hb hdg (show (pc : Int) + off = (x : Int) from hk) (fun q => absurd q ((ex_bF ex_gt_t).mp hc1)) (fun _ => kk H ls locs cells slots hA)
    | le =>
      obtain ⟨hdg, hnx⟩ : decode cc pc = .ok (.if_icmp .le off, 3) ∧ nx = pc + 3 := hd
      subst hnx
      obtain ⟨a, b, r, rfl, ⟨hc1, e1⟩ | ⟨hc1, e1⟩⟩ := ex_ic_v (show ex_ic ex_le x (pc + 3) lv st h = some (.inl f) from hs)
      · cases e1
        exact lv_icmp_le hx hb hdg (show (pc : Int) + off = (x : Int) from hk) (fun _ => kk H ls locs cells slots hA) (fun q => absurd (ex_le_t.mp hc1) q)
      · cases e1
        exact lv_icmp_le hx hb hdg (show (pc : Int) + off = (x : Int) from hk) (fun q => absurd q ((ex_bF ex_le_t).mp hc1)) (fun _ => kk H ls locs cells slots hA)
  | goto off =>
    obtain ⟨hdg, hnx⟩ : decode cc pc = .ok (.goto off, 3) ∧ nx = pc + 3 := hd
    subst hnx
    cases (show ex_go x lv st h = some (.inl f) from hs)
    exact lv_goto hx hb hdg (show (pc : Int) + off = (x : Int) from hk) (kk H ls locs cells slots hA)
  | tableswitch d lo hi offs =>
    obtain ⟨len, hdg⟩ : ∃ len, decode cc pc = .ok (.tableswitch d lo hi offs, len) := hd
    obtain ⟨a, r, rfl, ⟨hc1, t, ht, e1⟩ | ⟨hc1, off, t, ho, ht, e1⟩⟩ := ex_tsw_v (show ex_tsw d lo hi offs pc lv st h = some (.inl f) from hs)
    · cases e1
      exact lv_tableOut hx hb hdg hc1 ht (kk H ls locs cells slots hA)
    · cases e1
      exact lv_tableIn hx hb hdg (fun q => hc1 (Or.inl q)) (fun q => hc1 (Or.inr q)) ho ht (kk H ls locs cells slots hA)
  | lookupswitch d ps =>
    obtain ⟨⟨len, hdg⟩, hps⟩ : (∃ len, decode cc pc = .ok (.lookupswitch d ps, len)) ∧ (ps.toList.zip (ps.toList.drop 1)).all (fun (a, next) => a.1 < next.1) = true := hd
    obtain ⟨a, r, t, rfl, ht, e1⟩ := ex_lsw_v (show ex_lsw d ps pc lv st h = some (.inl f) from hs)
    cases e1
    exact lv_lookup hx hb hdg hps rfl ht (kk H ls locs cells slots hA)
  | dup =>
    obtain ⟨hdg, hnx⟩ : decode cc pc = .ok (.dup, 1) ∧ nx = pc + 1 := hd
    subst hnx
    obtain ⟨v, r, hv, rfl, e1⟩ := ex_dup_v (show ex_dup (pc + 1) lv st h = some (.inl f) from hs)
    cases e1
    exact lv_dup hx hb hdg (by rw [ex_cat]; exact hv) (kk H ls locs cells slots hA)
  | pop =>
    obtain ⟨hdg, hnx⟩ : decode cc pc = .ok (.pop, 1) ∧ nx = pc + 1 := hd
    subst hnx
    obtain ⟨v, r, hv, rfl, e1⟩ := ex_pop_v (show ex_pop (pc + 1) lv st h = some (.inl f) from hs)
    cases e1
    exact lv_pop hx hb hdg (by rw [ex_cat]; exact hv) (kk H ls locs cells slots hA)
  | dup_x1 =>
    obtain ⟨hdg, hnx⟩ : decode cc pc = .ok (.dup_x1, 1) ∧ nx = pc + 1 := hd
    subst hnx
    obtain ⟨v, u, r, hv, hu, rfl, e1⟩ := ex_dupx1_v (show ex_dupx1 (pc + 1) lv st h = some (.inl f) from hs)
    cases e1
    exact lv_dup_x1 hx hb hdg (by rw [ex_cat]; exact hv) (by rw [ex_cat]; exact hu) (kk H ls locs cells slots hA)
  | dup2 =>
    obtain ⟨hdg, hnx⟩ : decode cc pc = .ok (.dup2, 1) ∧ nx = pc + 1 := hd
    subst hnx
    obtain ⟨v, u, r, rfl, ⟨hv, e1⟩ | ⟨hv, hu, e1⟩⟩ := ex_dup2_v (show ex_dup2 (pc + 1) lv st h = some (.inl f) from hs)
    · cases e1
      exact lv_dup2_2 hx hb hdg (by rw [ex_cat]; exact hv) (kk H ls locs cells slots hA)
    · cases e1
      exact lv_dup2_11 hx hb hdg (by rw [ex_cat]; exact hv) (by rw [ex_cat]; exact hu) (kk H ls locs cells slots hA)
  | getfield i =>
    obtain ⟨hdg, hnx⟩ : decode cc pc = .ok (.getfield i, 3) ∧ nx = pc + 3 := hd
    subst hnx
    obtain ⟨j, fs, v, r, hj, hv, rfl, e1⟩ := ex_gf_v (show ex_gf g x y (pc + 3) lv st h = some (.inl f) from hs)
    cases e1
    obtain ⟨k1, k2⟩ : (∀ r : vw_C, ex_cl[x]? = some r → y < r.2.2) ∧ Jvm.Cond.fieldLink own i (ex_fd x y).1 (ex_fd x y).2.1 (ex_fd x y).2.2.1 ∈ ex_wall := hk
    exact ex_kget C0 hW hS hj hv k1 k2 hdg (kk H ls locs cells slots hA)
  | putfield i =>
    obtain ⟨hdg, hnx⟩ : decode cc pc = .ok (.putfield i, 3) ∧ nx = pc + 3 := hd
    subst hnx
    obtain ⟨j, fs, v, r, ty, hj, hlt, hty, hfit, rfl, e1⟩ := ex_pf_v (show ex_pf g (ex_ft x) x y (pc + 3) lv st h = some (.inl f) from hs)
    cases e1
    obtain ⟨r0, k1, k2, k3, k4⟩ : ∃ r : vw_C, ex_cl[x]? = some r ∧ y < r.2.2 ∧ Jvm.Cond.fieldLink own i (r.2.1 y).1 (r.2.1 y).2.1 (r.2.1 y).2.2.1 ∈ ex_wall ∧ ((r.2.1 y).2.2.2 = false ∨ ((r.2.1 y).2.2.2 = true ∧ mn = "<init>" ∧ (r.2.1 y).1 = own)) := hk
    refine ex_kput C0 hW hS hj hlt hty hfit k1 k2 k3 k4 hdg (fun H1 locs1 hW1 hS1 => kk H1 ls locs1 cells slots ⟨hl, hW1, hS1, ?_, hsl⟩)
    show cells + n0 = (ex_lset h.1 _ _).length
    rw [ex_lset_eq, List.length_set]; exact hc
  | arraylength =>
    obtain ⟨hdg, hnx⟩ : decode cc pc = .ok (.arraylength, 1) ∧ nx = pc + 1 := hd
    subst hnx
    obtain ⟨j, t, n, q, r, hj, ht, rfl, e1⟩ := ex_len_v (show ex_len g (pc + 1) lv st h = some (.inl f) from hs)
    cases e1
    exact ex_klen C0 hW hS hj ht hdg (kk H ls locs cells slots hA)
  | iaload =>
    obtain ⟨hdg, hnx⟩ : decode cc pc = .ok (.iaload, 1) ∧ nx = pc + 1 := hd
    subst hnx
    obtain ⟨i, j, k, n, q, r, hj, hk1, hin, rfl, e1⟩ := ex_xld_v (show ex_xld g 0 0 (pc + 1) lv st h = some (.inl f) from hs)
    cases e1
    have hk2 : k = 0 := hk1.elim id id
    subst hk2
    exact ex_kxld C0 hW hS hj hin hdg (kk H ls locs cells slots hA)
  | baload =>
    obtain ⟨hdg, hnx⟩ : decode cc pc = .ok (.baload, 1) ∧ nx = pc + 1 := hd
    subst hnx
    obtain ⟨i, j, k, n, q, r, hj, hk1, hin, rfl, e1⟩ := ex_xld_v (show ex_xld g 1 2 (pc + 1) lv st h = some (.inl f) from hs)
    cases e1
    exact ex_kbld C0 hW hS hj hk1 hin hdg (kk H ls locs cells slots hA)
  | laload =>
    obtain ⟨hdg, hnx⟩ : decode cc pc = .ok (.laload, 1) ∧ nx = pc + 1 := hd
    subst hnx
    obtain ⟨i, j, n, q, r, hj, hin, rfl, e1⟩ := ex_xlld_v (show ex_xlld g (pc + 1) lv st h = some (.inl f) from hs)
    cases e1
    exact va_lald hx hb hK (ex_one (hW.at hj)) 0 3 rfl rfl hin hdg (kk H ls locs cells slots hA)
  | aaload =>
    obtain ⟨hdg, hnx⟩ : decode cc pc = .ok (.aaload, 1) ∧ nx = pc + 1 := hd
    subst hnx
    obtain ⟨i, j, n, q, v, r, hj, hin, hv, rfl, e1⟩ := ex_xald_v (show ex_xald g (pc + 1) lv st h = some (.inl f) from hs)
    cases e1
    refine va_aldq hx hb hK (ex_one (hW.at hj)) 0 4 rfl rfl hin hdg ?_
    rw [show ((q j.toNatClampNeg).map (ex_ad g o)) = some (ex_ad g o v) by rw [hv]; rfl]
    exact kk H ls locs cells slots hA
  | iastore =>
    obtain ⟨hdg, hnx⟩ : decode cc pc = .ok (.iastore, 1) ∧ nx = pc + 1 := hd
    subst hnx
    obtain ⟨i, j, n, q, v, r, hj, hin, rfl, e1⟩ := ex_xst_v (show ex_xst g (pc + 1) lv st h = some (.inl f) from hs)
    cases e1
    refine ex_kiast C0 hW hS hj hin hdg (fun H1 locs1 hW1 hS1 => kk H1 ls locs1 cells slots ⟨hl, hW1, hS1, ?_, hsl⟩)
    show cells + n0 = (ex_lset h.1 _ _).length
    rw [ex_lset_eq, List.length_set]; exact hc
  | lastore =>
    obtain ⟨hdg, hnx⟩ : decode cc pc = .ok (.lastore, 1) ∧ nx = pc + 1 := hd
    subst hnx
    obtain ⟨i, j, n, q, v, r, hj, hin, rfl, e1⟩ := ex_xlst_v (show ex_xlst g (pc + 1) lv st h = some (.inl f) from hs)
    cases e1
    refine ex_klast C0 hW hS hj hin hdg (fun H1 locs1 hW1 hS1 => kk H1 ls locs1 cells slots ⟨hl, hW1, hS1, ?_, hsl⟩)
    show cells + n0 = (ex_lset h.1 _ _).length
    rw [ex_lset_eq, List.length_set]; exact hc
  | bastore =>
    obtain ⟨hdg, hnx⟩ : decode cc pc = .ok (.bastore, 1) ∧ nx = pc + 1 := hd
    subst hnx
    obtain ⟨i, j, n, q, v, r, hin, rfl, ⟨hj, e1⟩ | ⟨hj, e1⟩⟩ := ex_xbst_v (show ex_xbst g (pc + 1) lv st h = some (.inl f) from hs)
    · cases e1
      refine ex_kbast C0 hW hS hj hin hdg (fun H1 locs1 hW1 hS1 => kk H1 ls locs1 cells slots ⟨hl, hW1, hS1, ?_, hsl⟩)
      show cells + n0 = (ex_lset h.1 _ _).length
      rw [ex_lset_eq, List.length_set]; exact hc
    · cases e1
      refine ex_kzast C0 hW hS hj hin hdg (fun H1 locs1 hW1 hS1 => kk H1 ls locs1 cells slots ⟨hl, hW1, hS1, ?_, hsl⟩)
      show cells + n0 = (ex_lset h.1 _ _).length
      rw [ex_lset_eq, List.length_set]; exact hc
  | aastore =>
    obtain ⟨hdg, hnx⟩ : decode cc pc = .ok (.aastore, 1) ∧ nx = pc + 1 := hd
    subst hnx
    obtain ⟨i, j, n, q, v, fs, r, hj, hin, hv1, hv2, rfl, e1⟩ := ex_xast_v (show ex_xast g (pc + 1) lv st h = some (.inl f) from hs)
    cases e1
    refine ex_kaast C0 hW hS hj hv1 hv2 hin hdg (fun H1 locs1 hW1 hS1 => kk H1 ls locs1 cells slots ⟨hl, hW1, hS1, ?_, hsl⟩)
    show cells + n0 = (ex_lset h.1 _ _).length
    rw [ex_lset_eq, List.length_set]; exact hc
  | new i =>
    obtain ⟨hdg, hnx⟩ : decode cc pc = .ok (.new i, 3) ∧ nx = pc + 3 := hd
    subst hnx
    cases (show ex_go (pc + 3) lv (.ref (g.1 + h.1.length) :: st) (h.1 ++ [.inl (x, (ex_ft x).map defaultValue)], h.2 + (ex_ft x).length) = some (.inl f) from hs)
    obtain ⟨r, k1, k2, k3, k4⟩ : ∃ r : vw_C, ex_cl[x]? = some r ∧ Jvm.Cond.classLink own i r.1 ∈ ex_wall ∧ Jvm.Cond.instantiable r.1 r.2.2 ∈ ex_wall ∧ Jvm.Cond.initialized r.1 ∈ ex_wall := hk
    have hm1 : (h.1 ++ [Sum.inl (x, (ex_ft x).map defaultValue)]).length ≤ R.cells + n0 := hm1
    have hm2 : h.2 + (ex_ft x).length ≤ R.slots + s0 := hm2
    rw [List.length_append, List.length_singleton] at hm1
    have hc : cells + n0 = h.1.length := hc
    have hsl : slots + s0 = h.2 := hsl
    refine ex_knew C0 hW hS k1 k2 k3 k4 (by omega) (by omega) hdg (fun H1 hW1 hS1 => kk H1 ls locs (cells + 1) (slots + (ex_ft x).length) ⟨hl, hW1, hS1, ?_, ?_⟩)
    · show cells + 1 + n0 = (h.1 ++ [Sum.inl (x, (ex_ft x).map defaultValue)]).length
      rw [List.length_append, List.length_singleton]; omega
    · show slots + (ex_ft x).length + s0 = h.2 + (ex_ft x).length
      omega
  | newarray t =>
    obtain ⟨hdg, hnx⟩ : decode cc pc = .ok (.newarray t, 2) ∧ nx = pc + 2 := hd
    subst hnx
    obtain ⟨n, r, k, zz, hn, hN, hz, rfl, e1⟩ := ex_newa_v (show ex_newa g t (pc + 2) lv st h = some (.inl f) from hs)
    cases e1
    have hm1 : (h.1 ++ [(Sum.inr (k, n.toNatClampNeg, zz) : ex_C)]).length ≤ R.cells + n0 := hm1
    have hm2 : h.2 + n.toNatClampNeg ≤ R.slots + s0 := hm2
    rw [List.length_append, List.length_singleton] at hm1
    have hc : cells + n0 = h.1.length := hc
    have hsl : slots + s0 = h.2 := hsl
    refine ex_knewa C0 hW hS hz hn hN (show Jvm.Cond.arrayClass (newarray.typeOf t) ∈ ex_wall from hk) (by omega) (by omega) hdg (fun H1 hW1 hS1 => kk H1 ls locs (cells + 1) (slots + n.toNatClampNeg) ⟨hl, hW1, hS1, ?_, ?_⟩)
    · show cells + 1 + n0 = (h.1 ++ [(Sum.inr (k, n.toNatClampNeg, zz) : ex_C)]).length
      rw [List.length_append, List.length_singleton]; omega
    · show slots + n.toNatClampNeg + s0 = h.2 + n.toNatClampNeg
      omega
  | anewarray i =>
    obtain ⟨hdg, hnx⟩ : decode cc pc = .ok (.anewarray i, 3) ∧ nx = pc + 3 := hd
    subst hnx
    obtain ⟨n, r, hn, hN, rfl, e1⟩ := ex_newq_v (show ex_newq g (pc + 3) lv st h = some (.inl f) from hs)
    cases e1
    have hm1 : (h.1 ++ [(Sum.inr (4, n.toNatClampNeg, .inr (.inr (.inr (.inr (fun _ => none))))) : ex_C)]).length ≤ R.cells + n0 := hm1
    have hm2 : h.2 + n.toNatClampNeg ≤ R.slots + s0 := hm2
    rw [List.length_append, List.length_singleton] at hm1
    have hc : cells + n0 = h.1.length := hc
    have hsl : slots + s0 = h.2 := hsl
    refine ex_knewq C0 hW hS hn hN hk (by omega) (by omega) hdg (fun H1 hW1 hS1 => kk H1 ls locs (cells + 1) (slots + n.toNatClampNeg) ⟨hl, hW1, hS1, ?_, ?_⟩)
    · show cells + 1 + n0 = (h.1 ++ [(Sum.inr (4, n.toNatClampNeg, .inr (.inr (.inr (.inr (fun _ => none))))) : ex_C)]).length
      rw [List.length_append, List.length_singleton]; omega
    · show slots + n.toNatClampNeg + s0 = h.2 + n.toNatClampNeg
      omega
  | invokespecial i =>
    obtain ⟨hdg, hnx⟩ : decode cc pc = .ok (.invokespecial i, 3) ∧ nx = pc + 3 := hd
    subst hnx
    replace hs : ex_callI x y (pc + 3) lv st h = some (.inl f) := hs
    unfold ex_callI at hs
    rcases (show (x = 1000000 ∧ Jvm.Cond.methodLink own i objectInit ∈ ex_wall ∧ Jvm.Cond.instanceMethod objectInit ∈ ex_wall ∧ Jvm.Cond.code objectInit ⟨#[0xb1]⟩ 1 none ∈ ex_wall) ∨ (¬ x = 1000000 ∧ ∃ M : ex_M, P x = some M ∧ M.1.name = "<init>" ∧ M.2.2.2.1 = none ∧ Jvm.Cond.methodLink own i M.1 ∈ ex_wall ∧ Jvm.Cond.instanceMethod M.1 ∈ ex_wall ∧ (parseMethodDescriptor M.1.desc).map (fun d => d.parameters.length) = some y) from hk) with ⟨hx0, k1, k2, k3⟩ | ⟨hx0, -⟩
    · subst hx0
      rw [show Nat.beq 1000000 1000000 = true from rfl] at hs
      simp only [cond_true] at hs
      split at hs
      · rename_i b r
        cases hw : Nat.ble (ex_w r) 8 with
        | false => rw [hw] at hs; cases hs
        | true =>
          rw [hw] at hs
          cases (show some (Sum.inl (pc + 3, lv, r, h)) = some (Sum.inl f) from hs)
          refine W.objInit hx hb hown (hts _ k1) (hts _ k2) (hts _ k3) (g := F0 m pc ls ((Value.ref b :: r).map (ex_cv g o))) rfl (hl.1.trans hml.symm) (a := ex_ad g o b) (rest := r.map (ex_cv g o)) rfl hdg hRf ?_ (kk H ls locs cells slots hA)
          show 2 * 0 + _ + 12 ≤ _
          rw [ex_wm]
          have := Nat.le_of_ble_eq_true hw
          omega
      · cases hs
    · have hb0 : Nat.beq x 1000000 = false := by
        cases hq : Nat.beq x 1000000 with
        | false => rfl
        | true => exact absurd (Nat.eq_of_beq_eq_true hq) hx0
      rw [hb0] at hs
      simp only [cond_false] at hs
      split at hs
      · rename_i b r hdr
        cases hq : (Nat.ble (ex_w r) 8 && Nat.beq (st.take y).length y) with
        | false => rw [hq] at hs; cases hs
        | true => rw [hq] at hs; cases hs
      · cases hs
  | invokestatic i =>
    obtain ⟨hdg, hnx⟩ : decode cc pc = .ok (.invokestatic i, 3) ∧ nx = pc + 3 := hd
    subst hnx
    replace hs : ex_callS g x y (pc + 3) lv st h = some (.inl f) := hs
    unfold ex_callS at hs
    rcases (show (x = 1000000 ∧ Jvm.Cond.methodLink own i arraycopyName ∈ ex_wall ∧ Jvm.Cond.native arraycopyName ∈ ex_wall ∧ Jvm.Cond.static arraycopyName ∈ ex_wall ∧ Jvm.Cond.initialized "java/lang/System" ∈ ex_wall) ∨ (x = 1000001 ∧ Jvm.Cond.methodLink own i Lib.Math.max.name ∈ ex_wall ∧ Jvm.Cond.static Lib.Math.max.name ∈ ex_wall ∧ Jvm.Cond.initialized "java/lang/Math" ∈ ex_wall ∧ Jvm.Cond.code Lib.Math.max.name Lib.Math.max.code 2 (some .int) ∈ ex_wall) ∨ (x = 1000002 ∧ Jvm.Cond.methodLink own i Lib.Math.min.name ∈ ex_wall ∧ Jvm.Cond.static Lib.Math.min.name ∈ ex_wall ∧ Jvm.Cond.initialized "java/lang/Math" ∈ ex_wall ∧ Jvm.Cond.code Lib.Math.min.name Lib.Math.min.code 2 (some .int) ∈ ex_wall) ∨ (x < 1000000 ∧ ∃ M : ex_M, P x = some M ∧ Jvm.Cond.methodLink own i M.1 ∈ ex_wall ∧ Jvm.Cond.static M.1 ∈ ex_wall ∧ (parseMethodDescriptor M.1.desc).map (fun d => d.parameters.length) = some y) from hk) with ⟨hx0, k1, k2, k3, k4⟩ | ⟨hx0, k1, k2, k3, k4⟩ | ⟨hx0, k1, k2, k3, k4⟩ | ⟨hx0, -⟩
    · subst hx0
      rw [show Nat.beq 1000000 1000000 = true from rfl] at hs
      simp only [cond_true] at hs
      obtain ⟨n, dp, b, sp, a, r, n1, q1, n2, q2, ha, hb2, hn0, h1, h2, h3, h4, h5, hw, rfl, e1⟩ := ex_cpy_v hs
      cases e1
      exact ex_kcpy C0 hW hS hl.1 ha hb2 hn0 h1 h2 h3 h4 h5 (by rw [ex_wm]; exact hw) k1 k2 k3 k4 hdg (fun H1 locs1 hW1 hS1 => kk H1 ls locs1 cells slots ⟨hl, hW1, hS1, hc, hsl⟩)
    · subst hx0
      rw [show Nat.beq 1000001 1000000 = false from rfl, show Nat.blt 1000000 1000001 = true from rfl] at hs
      simp only [cond_false, cond_true] at hs
      obtain ⟨b, a, r, hw, rfl, ⟨hk1, e1⟩ | ⟨hk1, e1⟩⟩ := ex_math_v hs
      · cases e1
        exact va_mmax hx hb (hml.trans hl.1.symm) hown (hts _ k1) (hts _ k2) (hts _ k3) (hts _ k4) hRf (by rw [ex_wm]; omega) (by have : h.1.length ≤ R.cells + n0 := hm1; have : cells + n0 = h.1.length := hc; omega) (by have : h.2 ≤ R.slots + s0 := hm2; have : slots + s0 = h.2 := hsl; omega) hdg (kk H ls locs cells slots hA)
      · cases hk1
    · subst hx0
      rw [show Nat.beq 1000002 1000000 = false from rfl, show Nat.blt 1000000 1000002 = true from rfl] at hs
      simp only [cond_false, cond_true] at hs
      obtain ⟨b, a, r, hw, rfl, ⟨hk1, e1⟩ | ⟨hk1, e1⟩⟩ := ex_math_v hs
      · cases hk1
      · cases e1
        exact va_mmin hx hb (hml.trans hl.1.symm) hown (hts _ k1) (hts _ k2) (hts _ k3) (hts _ k4) hRf (by rw [ex_wm]; omega) (by have : h.1.length ≤ R.cells + n0 := hm1; have : cells + n0 = h.1.length := hc; omega) (by have : h.2 ≤ R.slots + s0 := hm2; have : slots + s0 = h.2 := hsl; omega) hdg (kk H ls locs cells slots hA)
    · rw [show Nat.beq x 1000000 = false by cases hq : Nat.beq x 1000000 with | false => rfl | true => exact absurd (Nat.eq_of_beq_eq_true hq) (by omega), ex_blt (show ¬ 1000000 < x by omega)] at hs
      simp only [cond_false] at hs
      cases hq : (Nat.ble (ex_w (st.drop y)) 8 && Nat.beq (st.take y).length y) with
      | false => rw [hq] at hs; cases hs
      | true => rw [hq] at hs; cases hs
  | invokevirtual i =>
    obtain ⟨hdg, hnx⟩ : decode cc pc = .ok (.invokevirtual i, 3) ∧ nx = pc + 3 := hd
    subst hnx
    replace hs : ex_callV g x y z (pc + 3) lv st h = some (.inl f) := hs
    unfold ex_callV at hs
    split at hs
    · split at hs
      · rename_i b r hdr _ cj fs hg
        cases hq : (Nat.beq z cj && Nat.ble (ex_w r) 8 && Nat.beq (st.take y).length y) with
        | false => rw [hq] at hs; cases hs
        | true => rw [hq] at hs; cases hs
      · cases hs
    · cases hs
  | ireturn =>
    replace hs : ex_ret rt st h = some (.inl f) := hs
    unfold ex_ret at hs
    split at hs
    · cases hs
    · rename_i v
      cases hq : (v == 0 || v == 1) with
      | false => rw [hq] at hs; cases hs
      | true => rw [hq] at hs; cases hs
    · rename_i v
      cases hq : decide (narrow .char (.int v) = .int v) with
      | false => rw [hq] at hs; cases hs
      | true => rw [hq] at hs; cases hs
    · rename_i v
      cases hq : decide (narrow .byte (.int v) = .int v) with
      | false => rw [hq] at hs; cases hs
      | true => rw [hq] at hs; cases hs
    · cases hs
  | lreturn =>
    replace hs : ex_lret rt st h = some (.inl f) := hs
    unfold ex_lret at hs
    split at hs
    · cases hs
    · cases hs
  | areturn =>
    replace hs : ex_aret rt st h = some (.inl f) := hs
    unfold ex_aret at hs
    split at hs
    · cases hs
    · cases hs
  | return_ =>
    replace hs : ex_vret rt st h = some (.inl f) := hs
    unfold ex_vret at hs
    split at hs
    · cases hs
    · cases hs
  | _ => cases (show (none : Option ex_O) = some (.inl f) from hs)
end EXN
