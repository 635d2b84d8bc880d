/-! ===== the machine follows the interpreter: one instruction ===== -/
section EXS
variable {p : Program} {l : Launch} {e : Env} {R : Room} {s : State} {m : MethodId} {args : Array Value} {below : List Frame} {meth : Method} {c : Code} {H : Heap} {locs : List Loc} {cells slots : Nat} {Q : State → Prop}
variable {cc : ByteArray} {pc : Nat} {ls : Array Slot} {rest : List Value} {g : ex_G} {o : ex_P} {nL n0 s0 : Nat} {rt : Option FieldType} {own mn : String} {h : ex_H} {H0 : Heap}
theorem ex_fd_of {ci k : Nat} {r : vw_C} (hc : ex_cl[ci]? = some r) : ex_fd ci k = r.2.1 k := by
  unfold ex_fd
  rw [hc]
theorem ex_cn_of {ci : Nat} {r : vw_C} (hc : ex_cl[ci]? = some r) : ex_cn ci = r.1 := by
  unfold ex_cn
  rw [hc]
theorem ex_setV {N : Nat} {fs : List Value} {k : Nat} (hk : k < fs.length) (v : Value) (j : Nat) (_ : j < N) : updV (vp_V fs) k v j = vp_V (fs.set k v) j := vp_updV_set hk v j
/-- a field is read -/
theorem ex_kget (C : ex_Cx g o p s m args meth c cc nL rt own mn R) (hW : ex_Wd g o h H) (hS : va_S (ex_A o) s.heap H locs) {i ci k index : Nat} {fs : List Value} {v : Value} (hi : ex_get g h i = some (.inl (ci, fs))) (hv : fs[k]? = some v)
    (hlt : ∀ r : vw_C, ex_cl[ci]? = some r → k < r.2.2) (hlk : Jvm.Cond.fieldLink own index (ex_fd ci k).1 (ex_fd ci k).2.1 (ex_fd ci k).2.2.1 ∈ ex_wall) (hdg : decode cc pc = .ok (.getfield index, 3))
    (kk : W p l e R s m args below meth c H locs cells slots Q (F0 m (pc + 3) ls (ex_cv g o v :: rest))) : W p l e R s m args below meth c H locs cells slots Q (F0 m pc ls (.ref (ex_ad g o i) :: rest)) := by
  obtain ⟨hx, hb, hml, hown, hts, hK, hX, hlocks, hr, hmn, hco, hBs, hRf, hRl⟩ := C
  have hlink := hts _ hlk
  rcases ex_get_spec hi with ⟨hlo, hxt⟩ | hi
  · have e1 : ex_ad g o i = o.2.2.1 i := by unfold ex_ad; rw [if_pos hlo]
    rw [e1]
    obtain ⟨hci, hO, hF⟩ := hX.1 i _ hlo hxt
    subst hci
    exact vk_getf hx hb (hF k v hv) hS hown (show (Jvm.Cond.fieldLink own index (ex_fdS k).1 (ex_fdS k).2.1 (ex_fdS k).2.2.1).before args s = true from hlink) (fun _ q => q) hdg kk
  · have hat := hW.at hi
    obtain ⟨r, hc, -⟩ := id hat
    obtain ⟨C, T, N⟩ := r
    have hin := (hco ci _ hc).1
    rw [ex_fd_of hc] at hlink
    exact va_get hx hb hts hin hown hK (ex_one hat) 0 rfl hc k (hlt _ hc) hlink (fun _ q => q) (by rw [List.getElem?_map, hv]; rfl) hdg kk
/-- a field is written -/
theorem ex_kput (C : ex_Cx g o p s m args meth c cc nL rt own mn R) (hW : ex_Wd g o h H) (hS : va_S (ex_A o) s.heap H locs) {i ci k index : Nat} {fs : List Value} {v : Value} {ty : FieldType} {r : vw_C} (hi : ex_own g h i = some (.inl (ci, fs))) (hl : k < fs.length) (hty : (ex_ft ci)[k]? = some ty) (hfit : ex_fit ty v = true)
    (hc : ex_cl[ci]? = some r) (hk : k < r.2.2) (hlk : Jvm.Cond.fieldLink own index (r.2.1 k).1 (r.2.1 k).2.1 (r.2.1 k).2.2.1 ∈ ex_wall) (hfin : (r.2.1 k).2.2.2 = false ∨ ((r.2.1 k).2.2.2 = true ∧ mn = "<init>" ∧ (r.2.1 k).1 = own)) (hdg : decode cc pc = .ok (.putfield index, 3))
    (kk : ∀ (H1 : Heap) (locs1 : List Loc), ex_Wd g o (ex_set g h i (.inl (ci, fs.set k v))) H1 → va_S (ex_A o) s.heap H1 locs1 → W p l e R s m args below meth c H1 locs1 cells slots Q (F0 m (pc + 3) ls rest)) : W p l e R s m args below meth c H locs cells slots Q (F0 m pc ls (ex_cv g o v :: .ref (ex_ad g o i) :: rest)) := by
  obtain ⟨hx, hb, hml, hown, hts, hK, hX, hlocks, hr, hmn, hco, hBs, hRf, hRl⟩ := C
  have hlink := hts _ hlk
  have hat := hW.at hi
  obtain ⟨r', h1, cell, q1, q2, q3, q4⟩ := id hat
  cases h1.symm.trans hc
  obtain ⟨hin, hnm, hlen, htys⟩ := hco ci _ hc
  have hap := va_apart (own := own) hts hin (fun k => (ex_ft ci).getD k .int) htys hnm hK hc
  obtain ⟨hSl, hfc, kC, hkC, hkind⟩ := hK.1 ci _ hc
  obtain ⟨cf, kf, fi, f, hif, hsl⟩ := hSl k hk
  have hd : parseFieldDescriptor (r.2.1 k).2.2.1 = some ty := by
    rw [htys k hk, List.getD_eq_getElem?_getD, hty]
    rfl
  obtain ⟨hn, hf2⟩ := ex_fit_spec g o hfit
  have hlay := hts _ (hin _ (u_in_lay hk))
  have hst := (u_facts hfc hkC (u_lays hts hin hk) hif).1
  have hA : ex_A o (ex_ad g o i) := by
    have := (ex_own_spec hi).1
    unfold ex_ad ex_A
    rw [if_neg this]
    omega
  have hl2 : k < (fs.map (ex_cv g o)).length := by rw [List.length_map]; exact hl
  have fin : ∀ (H1 : Heap), H1[ex_ad g o i]? = some (cell.setSlot (o.1.2 ci k) (ex_cv g o v)) → H1.size = H.size → (∀ q, q ≠ ex_ad g o i → H1[q]? = H[q]?) → W p l e R s m args below meth c H1 (locs ++ [⟨ex_ad g o i, o.1.2 ci k⟩]) cells slots Q (F0 m (pc + 3) ls rest) := by
    intro H1 e1 e2 e3
    refine kk H1 _ (hW.set hi e2 ?_ e3) (hS.put e2 e3 hA)
    refine ⟨_, hc, t_OB.to (V := updV (vp_V (fs.map (ex_cv g o))) k (ex_cv g o v)) ⟨_, e1, q2, q3, t_set q4 hap hk _⟩ (fun j _ => ?_)⟩
    rw [vp_updV_set hl2, List.map_set]
  rcases hfin with hfin | ⟨hfin, hin2, hdecl⟩
  · unfold u_lay at hlay
    rw [if_neg (by rw [hfin]; decide)] at hlay
    have h6 := u_store hfc hkC hkind hlay hif hd hn hf2
    refine W.putK hx hb (f := f) ⟨hown, hlink, ⟨_, _, _, hif⟩, hst⟩ (by rw [q2]; exact h6) q1 q3 (by rw [hsl]; exact k2_hasslot (q4 k hk)) rfl rfl hdg fun H' e1 e2 e3 => ?_
    rw [hsl] at e1 ⊢
    exact fin H' e1 e2 e3
  · unfold u_lay at hlay
    rw [if_pos hfin] at hlay
    have hcf : m.cls = cf := by
      obtain ⟨_, _, c', _, _, _, -, -, hf', -, -, -, hown2, -⟩ := Cond.laysFinal_spec hlay
      have e1 : c' = cf := by have := hif.symm.trans hf'; simp at this; exact this.1.symm
      rw [hdecl] at hown2
      rw [← e1]; exact Option.some.inj (hown.symm.trans hown2)
    have h6 := u_fits hfc hkC hkind (Or.inr hlay) hif hd hn hf2
    refine W.putFinK hx hb hown hlink hif hst hcf (hmn hin2) (by rw [q2]; exact h6) q1 q3 (by rw [hsl]; exact k2_hasslot (q4 k hk)) rfl rfl hdg fun H' e1 e2 e3 => ?_
    rw [hsl] at e1 ⊢
    exact fin H' e1 e2 e3
theorem ex_own_A {i : Nat} {x : ex_C} (hi : ex_own g h i = some x) : ex_A o (ex_ad g o i) := by
  have := (ex_own_spec hi).1
  unfold ex_ad ex_A
  rw [if_neg this]
  omega
theorem ex_get_own {i : Nat} {x : ex_C} (hi : ex_own g h i = some x) : ex_get g h i = some x := by
  have h1 := (ex_own_spec hi).1
  unfold ex_get
  rw [ex_blt h1]
  exact (ex_nth_eq _ _).trans (ex_own_spec hi).2

theorem ex_kiast (C : ex_Cx g o p s m args meth c cc nL rt own mn R) (hW : ex_Wd g o h H) (hS : va_S (ex_A o) s.heap H locs) {i n : Nat} {j : Int32} {f : Nat → Int32} {x : Int32} (hi : ex_own g h i = some (.inr (0, n, .inl f))) (hin : vp_in j n) (hdg : decode cc pc = .ok (.iastore, 1))
    (kk : ∀ (H1 : Heap) (locs1 : List Loc), ex_Wd g o (ex_set g h i (.inr (0, n, .inl (upd f j.toNatClampNeg x)))) H1 → va_S (ex_A o) s.heap H1 locs1 → W p l e R s m args below meth c H1 locs1 cells slots Q (F0 m (pc + 1) ls rest)) : W p l e R s m args below meth c H locs cells slots Q (F0 m pc ls (.int x :: .int j :: .ref (ex_ad g o i) :: rest)) := by
  obtain ⟨hx, hb, hml, hown, hts, hK, hX, hlocks, hr, hmn, hco, hBs, hRf, hRl⟩ := C
  have hat : H[ex_ad g o i]? = some (arrV (o.2.1 0) n (fun j => .int (f j))) := hW.at hi
  refine W.iast hx hb hat ((hK.2 0 _ rfl).1 n (fun j => .int (f j))) (fun q => by cases q) (by rw [arrV_size]; exact hin) rfl rfl hdg fun H1 e1 e2 e3 => ?_
  refine kk H1 _ (hW.set hi e2 ?_ e3) (hS.put e2 e3 (ex_own_A hi))
  show H1[ex_ad g o i]? = some (arrV (o.2.1 0) n (fun q => .int ((upd f j.toNatClampNeg x) q)))
  rw [e1, arrV_store]
  congr 2
  funext q
  by_cases hq : q = j.toNatClampNeg
  · subst hq
    simp [updV, upd]
  · simp [updV, upd, hq]
theorem ex_kbast (C : ex_Cx g o p s m args meth c cc nL rt own mn R) (hW : ex_Wd g o h H) (hS : va_S (ex_A o) s.heap H locs) {i n : Nat} {j : Int32} {f : Nat → Int32} {x : Int32} (hi : ex_own g h i = some (.inr (1, n, .inl f))) (hin : vp_in j n) (hdg : decode cc pc = .ok (.bastore, 1))
    (kk : ∀ (H1 : Heap) (locs1 : List Loc), ex_Wd g o (ex_set g h i (.inr (1, n, .inl (upd f j.toNatClampNeg x.toInt8.toInt32)))) H1 → va_S (ex_A o) s.heap H1 locs1 → W p l e R s m args below meth c H1 locs1 cells slots Q (F0 m (pc + 1) ls rest)) : W p l e R s m args below meth c H locs cells slots Q (F0 m pc ls (.int x :: .int j :: .ref (ex_ad g o i) :: rest)) := by
  obtain ⟨hx, hb, hml, hown, hts, hK, hX, hlocks, hr, hmn, hco, hBs, hRf, hRl⟩ := C
  have hat : H[ex_ad g o i]? = some (arrV (o.2.1 1) n (fun j => .int (f j))) := hW.at hi
  refine W.bast hx hb hat ((hK.2 1 _ rfl).1 n (fun j => .int (f j))) (fun q => by cases q) (by rw [arrV_size]; exact hin) rfl rfl hdg fun H1 e1 e2 e3 => ?_
  refine kk H1 _ (hW.set hi e2 ?_ e3) (hS.put e2 e3 (ex_own_A hi))
  show H1[ex_ad g o i]? = some (arrV (o.2.1 1) n (fun q => .int ((upd f j.toNatClampNeg x.toInt8.toInt32) q)))
  rw [e1, arrV_store]
  congr 2
  funext q
  by_cases hq : q = j.toNatClampNeg
  · subst hq
    simp [updV, upd, narrow]
  · simp [updV, upd, narrow, hq]
theorem ex_kzast (C : ex_Cx g o p s m args meth c cc nL rt own mn R) (hW : ex_Wd g o h H) (hS : va_S (ex_A o) s.heap H locs) {i n : Nat} {j : Int32} {f : Nat → Int32} {x : Int32} (hi : ex_own g h i = some (.inr (2, n, .inl f))) (hin : vp_in j n) (hdg : decode cc pc = .ok (.bastore, 1))
    (kk : ∀ (H1 : Heap) (locs1 : List Loc), ex_Wd g o (ex_set g h i (.inr (2, n, .inl (upd f j.toNatClampNeg (x &&& 1))))) H1 → va_S (ex_A o) s.heap H1 locs1 → W p l e R s m args below meth c H1 locs1 cells slots Q (F0 m (pc + 1) ls rest)) : W p l e R s m args below meth c H locs cells slots Q (F0 m pc ls (.int x :: .int j :: .ref (ex_ad g o i) :: rest)) := by
  obtain ⟨hx, hb, hml, hown, hts, hK, hX, hlocks, hr, hmn, hco, hBs, hRf, hRl⟩ := C
  have hat : H[ex_ad g o i]? = some (arrV (o.2.1 2) n (fun j => .int (f j))) := hW.at hi
  refine W.zast hx hb hat ((hK.2 2 _ rfl).1 n (fun j => .int (f j))) (fun q => by cases q) (by rw [arrV_size]; exact hin) rfl rfl hdg fun H1 e1 e2 e3 => ?_
  refine kk H1 _ (hW.set hi e2 ?_ e3) (hS.put e2 e3 (ex_own_A hi))
  show H1[ex_ad g o i]? = some (arrV (o.2.1 2) n (fun q => .int ((upd f j.toNatClampNeg (x &&& 1)) q)))
  rw [e1, arrV_store]
  congr 2
  funext q
  by_cases hq : q = j.toNatClampNeg
  · subst hq
    simp [updV, upd, narrow]
  · simp [updV, upd, narrow, hq]
theorem ex_klast (C : ex_Cx g o p s m args meth c cc nL rt own mn R) (hW : ex_Wd g o h H) (hS : va_S (ex_A o) s.heap H locs) {i n : Nat} {j : Int32} {f : Nat → Int64} {x : Int64} (hi : ex_own g h i = some (.inr (3, n, .inr (.inl f)))) (hin : vp_in j n) (hdg : decode cc pc = .ok (.lastore, 1))
    (kk : ∀ (H1 : Heap) (locs1 : List Loc), ex_Wd g o (ex_set g h i (.inr (3, n, .inr (.inl (vp_updL f j.toNatClampNeg x))))) H1 → va_S (ex_A o) s.heap H1 locs1 → W p l e R s m args below meth c H1 locs1 cells slots Q (F0 m (pc + 1) ls rest)) : W p l e R s m args below meth c H locs cells slots Q (F0 m pc ls (.long x :: .int j :: .ref (ex_ad g o i) :: rest)) := by
  obtain ⟨hx, hb, hml, hown, hts, hK, hX, hlocks, hr, hmn, hco, hBs, hRf, hRl⟩ := C
  have hat : H[ex_ad g o i]? = some (arrV (o.2.1 3) n (fun j => .long (f j))) := hW.at hi
  refine W.last hx hb hat ((hK.2 3 _ rfl).1 n (fun j => .long (f j))) (fun q => by cases q) (by rw [arrV_size]; exact hin) rfl rfl hdg fun H1 e1 e2 e3 => ?_
  refine kk H1 _ (hW.set hi e2 ?_ e3) (hS.put e2 e3 (ex_own_A hi))
  show H1[ex_ad g o i]? = some (arrV (o.2.1 3) n (fun q => .long ((vp_updL f j.toNatClampNeg x) q)))
  rw [e1, arrV_store]
  congr 2
  funext q
  by_cases hq : q = j.toNatClampNeg
  · subst hq
    simp [updV, vp_updL]
  · simp [updV, vp_updL, hq]
theorem ex_kaast (C : ex_Cx g o p s m args meth c cc nL rt own mn R) (hW : ex_Wd g o h H) (hS : va_S (ex_A o) s.heap H locs) {i n v : Nat} {j : Int32} {f : Nat → Option Nat} {fs : List Value} (hi : ex_own g h i = some (.inr (4, n, .inr (.inr (.inr (.inr f)))))) (hv : v < g.1) (hxt : g.2.1 v = some (.inl (13, fs))) (hin : vp_in j n) (hdg : decode cc pc = .ok (.aastore, 1))
    (kk : ∀ (H1 : Heap) (locs1 : List Loc), ex_Wd g o (ex_set g h i (.inr (4, n, .inr (.inr (.inr (.inr (va_up f j.toNatClampNeg (some v)))))))) H1 → va_S (ex_A o) s.heap H1 locs1 → W p l e R s m args below meth c H1 locs1 cells slots Q (F0 m (pc + 1) ls rest)) : W p l e R s m args below meth c H locs cells slots Q (F0 m pc ls (.ref (ex_ad g o v) :: .int j :: .ref (ex_ad g o i) :: rest)) := by
  obtain ⟨hx, hb, hml, hown, hts, hK, hX, hlocks, hr, hmn, hco, hBs, hRf, hRl⟩ := C
  have hat : H[ex_ad g o i]? = some (arrV (o.2.1 4) n (fun j => va_rf ((f j).map (ex_ad g o)))) := hW.at hi
  obtain ⟨-, hO, -⟩ := hX.1 v _ hv hxt
  have ev : ex_ad g o v = o.2.2.1 v := by unfold ex_ad; rw [if_pos hv]
  obtain ⟨cellV, g1, g3, g4, -⟩ := hO.kept hS.2.1
  obtain ⟨kC, hkC, -⟩ := Vm.findClass_spec g4
  obtain ⟨kA, comp, k1, k2, k3, -⟩ := (hK.2 4 _ rfl).2
  obtain ⟨kE, hkE, -⟩ := Vm.findClass_spec k3
  have hcc : comp = cellV.cls := Option.some.inj (k3.symm.trans g4)
  have h0 : ¬ j < 0 := fun q => hin (Or.inl q)
  have hlt : j.toNatClampNeg < n := Nat.not_le.mp fun q => hin (Or.inr q)
  rw [ev]
  refine W.aast hx hb hat (fun q h => by cases h) (fun h => by cases h) k1 k2 rfl hkE ⟨h0, by rw [arrV_size]; exact hlt⟩ g1 (fun q h => by rw [h] at g3; cases g3) hkC (by rw [hcc]; exact va_asg _ _) rfl rfl hdg fun H1 e1 e2 e3 => ?_
  refine kk H1 _ (hW.set hi e2 ?_ e3) (hS.put e2 e3 (ex_own_A hi))
  show H1[ex_ad g o i]? = some (arrV (o.2.1 4) n (fun q => va_rf ((va_up f j.toNatClampNeg (some v) q).map (ex_ad g o))))
  rw [e1, arrV_store]
  congr 2
  funext q
  by_cases hq : q = j.toNatClampNeg
  · subst hq
    simp [updV, va_up, va_rf, ev]
  · simp [updV, va_up, hq]
theorem ex_dflt (t : FieldType) : ex_cv g o (defaultValue t) = defaultValue t := by cases t <;> rfl
theorem ex_knew (C : ex_Cx g o p s m args meth c cc nL rt own mn R) (hW : ex_Wd g o h H) (hS : va_S (ex_A o) s.heap H locs) {ci index : Nat} {r : vw_C} (hc : ex_cl[ci]? = some r) (h1 : Jvm.Cond.classLink own index r.1 ∈ ex_wall) (h2 : Jvm.Cond.instantiable r.1 r.2.2 ∈ ex_wall) (h3 : Jvm.Cond.initialized r.1 ∈ ex_wall) (hcells : cells + 1 ≤ R.cells) (hslots : slots + (ex_ft ci).length ≤ R.slots) (hdg : decode cc pc = .ok (.new index, 3))
    (kk : ∀ (H1 : Heap), ex_Wd g o (h.1 ++ [.inl (ci, (ex_ft ci).map defaultValue)], h.2 + (ex_ft ci).length) H1 → va_S (ex_A o) s.heap H1 locs → W p l e R s m args below meth c H1 locs (cells + 1) (slots + (ex_ft ci).length) Q (F0 m (pc + 3) ls (.ref (ex_ad g o (g.1 + h.1.length)) :: rest))) : W p l e R s m args below meth c H locs cells slots Q (F0 m pc ls rest) := by
  obtain ⟨hx, hb, hml, hown, hts, hK, hX, hlocks, hr, hmn, hco, hBs, hRf, hRl⟩ := C
  obtain ⟨hin, hnm, hlen, htys⟩ := hco ci _ hc
  have hKn := hK.1 ci _ hc
  have e0 := ex_ad_new hW
  refine W.newcK hx hb hown (hts _ h1) (hts _ h2) (hts _ h3) rfl hdg hcells (by rw [← hlen]; exact hslots) hKn.2.1 rfl fun H1 kC hkC e1 e2 e3 => ?_
  rw [e0] at kk
  rw [← hlen]
  refine kk H1 (hW.push e2 ?_ e3) ⟨Nat.le_trans hS.1 (by omega), fun x q1 q2 => (e3 x (Nat.lt_of_lt_of_le q1 hS.1)).trans (hS.2.1 x q1 q2), hS.2.2⟩
  refine ⟨_, hc, (u_born (fun k => (ex_ft ci).getD k .int) hts hin hKn hkC e1 htys).to (fun j hj => ?_)⟩
  have hj2 : j < (ex_ft ci).length := by rw [hlen]; exact hj
  show _ = (((ex_ft ci).map defaultValue).map (ex_cv g o)).getD j .null
  rw [List.getD_eq_getElem?_getD, List.getD_eq_getElem?_getD, List.getElem?_map, List.getElem?_map, List.getElem?_eq_getElem hj2]
  show defaultValue _ = ex_cv g o (defaultValue _)
  rw [ex_dflt]
  rfl
theorem ex_knewa (C : ex_Cx g o p s m args meth c cc nL rt own mn R) (hW : ex_Wd g o h H) (hS : va_S (ex_A o) s.heap H locs) {t : ArrayType} {n : Int32} {k : Nat} {z} (hz : ex_nar t = some (k, z)) (hn : ¬ n < 0) (hN : n.toNatClampNeg ≤ 1000000) (hlk : Jvm.Cond.arrayClass (newarray.typeOf t) ∈ ex_wall) (hcells : cells + 1 ≤ R.cells) (hslots : slots + n.toNatClampNeg ≤ R.slots) (hdg : decode cc pc = .ok (.newarray t, 2))
    (kk : ∀ (H1 : Heap), ex_Wd g o (h.1 ++ [.inr (k, n.toNatClampNeg, z)], h.2 + n.toNatClampNeg) H1 → va_S (ex_A o) s.heap H1 locs → W p l e R s m args below meth c H1 locs (cells + 1) (slots + n.toNatClampNeg) Q (F0 m (pc + 2) ls (.ref (ex_ad g o (g.1 + h.1.length)) :: rest))) : W p l e R s m args below meth c H locs cells slots Q (F0 m pc ls (.int n :: rest)) := by
  obtain ⟨hx, hb, hml, hown, hts, hK, hX, hlocks, hr, hmn, hco, hBs, hRf, hRl⟩ := C
  have e0 := ex_ad_new hW
  rw [e0] at kk
  have hbytes : n.toNatClampNeg * componentBytes (newarray.typeOf t) ≤ 536870912 := by
    have hb8 : componentBytes (newarray.typeOf t) ≤ 8 := by cases t <;> decide
    exact Nat.le_trans (Nat.mul_le_mul hN hb8) (Nat.le_of_ble_eq_true rfl)
  refine va_newaK hx hb (hts _ hlk) rfl hdg rfl hn rfl hbytes hcells hslots rfl fun H1 cA e1 e2 e3 hAr hNm => ?_
  refine kk H1 (hW.push e2 ?_ e3) ⟨Nat.le_trans hS.1 (by omega), fun x q1 q2 => (e3 x (Nat.lt_of_lt_of_le q1 hS.1)).trans (hS.2.1 x q1 q2), hS.2.2⟩
  cases t with
  | int =>
    cases hz
    have e5 : cA = o.2.1 0 := Option.some.inj (hNm.symm.trans (hK.2 0 _ rfl).2)
    subst e5
    exact e1
  | byte =>
    cases hz
    have e5 : cA = o.2.1 1 := Option.some.inj (hNm.symm.trans (hK.2 1 _ rfl).2)
    subst e5
    exact e1
  | boolean =>
    cases hz
    have e5 : cA = o.2.1 2 := Option.some.inj (hNm.symm.trans (hK.2 2 _ rfl).2)
    subst e5
    exact e1
  | long =>
    cases hz
    have e5 : cA = o.2.1 3 := Option.some.inj (hNm.symm.trans (hK.2 3 _ rfl).2)
    subst e5
    exact e1
  | _ => cases hz
theorem ex_knewq (C : ex_Cx g o p s m args meth c cc nL rt own mn R) (hW : ex_Wd g o h H) (hS : va_S (ex_A o) s.heap H locs) {n : Int32} {index : Nat} (hn : ¬ n < 0) (hN : n.toNatClampNeg ≤ 1000000) (h1 : Jvm.Cond.classLink own index "java/lang/String" ∈ ex_wall) (hcells : cells + 1 ≤ R.cells) (hslots : slots + n.toNatClampNeg ≤ R.slots) (hdg : decode cc pc = .ok (.anewarray index, 3))
    (kk : ∀ (H1 : Heap), ex_Wd g o (h.1 ++ [.inr (4, n.toNatClampNeg, .inr (.inr (.inr (.inr (fun _ => none)))))], h.2 + n.toNatClampNeg) H1 → va_S (ex_A o) s.heap H1 locs → W p l e R s m args below meth c H1 locs (cells + 1) (slots + n.toNatClampNeg) Q (F0 m (pc + 3) ls (.ref (ex_ad g o (g.1 + h.1.length)) :: rest))) : W p l e R s m args below meth c H locs cells slots Q (F0 m pc ls (.int n :: rest)) := by
  obtain ⟨hx, hb, hml, hown, hts, hK, hX, hlocks, hr, hmn, hco, hBs, hRf, hRl⟩ := C
  have e0 := ex_ad_new hW
  rw [e0] at kk
  refine W.anew hx hb hown (hts _ h1) (va_AO.use hX.2.2.2) rfl hdg rfl hn (by omega) hcells hslots fun cA kA comp f1 f2 f3 f4 => ?_
  obtain ⟨kA', comp', k1, k2, k3, k4⟩ := (hK.2 4 _ rfl).2
  have e5 : cA = o.2.1 4 := Option.some.inj (f1.symm.trans k4)
  subst e5
  have e3 : ∀ q : Nat, q < H.size → (H.push ({ cls := o.2.1 4, slots := Array.replicate n.toNatClampNeg .null, vm := .none } : Cell))[q]? = H[q]? := fun q hq => by rw [Array.getElem?_push, if_neg (Nat.ne_of_lt hq)]
  refine kk _ (hW.push (by rw [Array.size_push]) ?_ e3) ⟨Nat.le_trans hS.1 (by rw [Array.size_push]; omega), fun x q1 q2 => (e3 x (Nat.lt_of_lt_of_le q1 hS.1)).trans (hS.2.1 x q1 q2), hS.2.2⟩
  show (H.push ({ cls := o.2.1 4, slots := Array.replicate n.toNatClampNeg .null, vm := .none } : Cell))[H.size]? = some (arrV (o.2.1 4) n.toNatClampNeg (fun _ => va_rf none))
  rw [Array.getElem?_push_size, ← arrV_new]
  rfl
theorem ex_kcpy (C : ex_Cx g o p s m args meth c cc nL rt own mn R) (hW : ex_Wd g o h H) (hS : va_S (ex_A o) s.heap H locs) (hls : ls.size = nL) {n dp sp : Int32} {a b n1 n2 index : Nat} {f k : Nat → Int32} (ha : ex_own g h a = some (.inr (1, n1, .inl f))) (hb2 : ex_own g h b = some (.inr (1, n2, .inl k))) (hn0 : n.toNatClampNeg = 0) (h1 : ¬ sp < 0) (h2 : ¬ dp < 0) (h3 : ¬ n < 0) (h4 : sp.toNatClampNeg ≤ n1) (h5 : dp.toNatClampNeg ≤ n2) (hw : (rest.map fun v => v.category).sum ≤ 8)
    (q1 : Jvm.Cond.methodLink own index arraycopyName ∈ ex_wall) (q2 : Jvm.Cond.native arraycopyName ∈ ex_wall) (q3 : Jvm.Cond.static arraycopyName ∈ ex_wall) (q4 : Jvm.Cond.initialized "java/lang/System" ∈ ex_wall) (hdg : decode cc pc = .ok (.invokestatic index, 3))
    (kk : ∀ (H1 : Heap) (locs1 : List Loc), ex_Wd g o h H1 → va_S (ex_A o) s.heap H1 locs1 → W p l e R s m args below meth c H1 locs1 cells slots Q (F0 m (pc + 3) ls rest)) : W p l e R s m args below meth c H locs cells slots Q (F0 m pc ls (.int n :: .int dp :: .ref (ex_ad g o b) :: .int sp :: .ref (ex_ad g o a) :: rest)) := by
  obtain ⟨hx, hb, hml, hown, hts, hK, hX, hlocks, hr, hmn, hco, hBs, hRf, hRl⟩ := C
  have nn : ∀ z : Int32, ¬ z < 0 → z.toInt = (z.toNatClampNeg : Int) := by
    intro z hz
    have hz0 : (0 : Int) ≤ z.toInt := by
      have := Int32.not_lt.mp hz
      simpa using Int32.le_iff_toInt_le.mp this
    show z.toInt = ((z.toInt.toNat : Nat) : Int)
    omega
  intro T hT X
  have hc0 : H[ex_ad g o a]? = some (vp_cell (o.2.1 1) (n1, .inl f)) := hW.at ha
  have hc1 : H[ex_ad g o b]? = some (vp_cell (o.2.1 1) (n2, .inl k)) := hW.at hb2
  obtain ⟨-, k0, hk0, cm0, hkk0⟩ := (hK.2 1 _ rfl).1 n1 (fun j => .int (f j))
  obtain ⟨vm', X', step⟩ := X.arraycopy hx hown (hts _ q1) (hts _ q2) (hts _ q3) (hts _ q4) (src := ex_ad g o a) (dst := ex_ad g o b) (cs := vp_cell (o.2.1 1) (n1, .inl f)) (cd := vp_cell (o.2.1 1) (n2, .inl k)) (srcPos := sp) (destPos := dp) (n := n) (by rw [hT]; exact hc0) (by rw [hT]; exact hc1)
    (fun _ h => by cases h) (fun _ h => by cases h) (fun h => by cases h) (fun h => by cases h) hk0 hk0 hkk0 hkk0 (by rfl) h1 h2 h3
    (by rw [nn sp h1, nn n h3]; show ¬ _ > ((arrV (o.2.1 1) n1 (fun j => .int (f j))).slots.size : Int); rw [arrV_size]; omega)
    (by rw [nn dp h2, nn n h3]; show ¬ _ > ((arrV (o.2.1 1) n2 (fun j => .int (k j))).slots.size : Int); rw [arrV_size]; omega)
    (fun vm₁ _ i hi => by omega)
    (g := F0 m pc ls (.int n :: .int dp :: .ref (ex_ad g o b) :: .int sp :: .ref (ex_ad g o a) :: rest)) rfl (by rw [hml]; exact hls) (rest := rest) rfl (by rw [hb]; exact hdg) hRf (by
      show 2 * 0 + _ + (nativeFrameWords "java/lang/System" "arraycopy" 5 + 11) ≤ _
      have : nativeFrameWords "java/lang/System" "arraycopy" 5 + 11 ≤ 50 := by decide +kernel
      omega)
  have e1 : copied (vp_cell (o.2.1 1) (n1, .inl f)) (vp_cell (o.2.1 1) (n2, .inl k)) sp dp n = vp_cell (o.2.1 1) (n2, .inl (va_cpy f k sp.toNatClampNeg dp.toNatClampNeg n.toNatClampNeg)) := va_copied (fun z => .int z) (o.2.1 1) (o.2.1 1) f k (by omega)
  have e2 : va_cpy f k sp.toNatClampNeg dp.toNatClampNeg n.toNatClampNeg = k := by
    funext q
    unfold va_cpy
    rw [hn0]
    first | (rw [if_neg (by omega)]) | (simp; omega) | simp
  rw [e1, e2] at X' step
  have hl : ex_ad g o b < H.size := (Array.getElem?_eq_some_iff.mp hc1).1
  have hheap : ((T.setVm vm').setCell (ex_ad g o b) (vp_cell (o.2.1 1) (n2, .inl k))).heap = H := by
    have e3 : ((T.setVm vm').setCell (ex_ad g o b) (vp_cell (o.2.1 1) (n2, .inl k))).heap = H.setIfInBounds (ex_ad g o b) (vp_cell (o.2.1 1) (n2, .inl k)) := by rw [← hT]; rfl
    rw [e3]
    apply Array.ext_getElem?
    intro q
    rw [Array.getElem?_setIfInBounds]
    by_cases hq : ex_ad g o b = q
    · subst hq
      rw [if_pos rfl, if_pos hl]
      exact hc1.symm
    · rw [if_neg hq]
  obtain ⟨t, a1, b1⟩ := kk H _ hW ⟨hS.1, hS.2.1, fun q hq => by
    rcases List.mem_append.mp hq with h | h
    · exact hS.2.2 q h
    · obtain ⟨y, -, rfl⟩ := List.mem_map.mp h
      exact ex_own_A hb2⟩ _ hheap X'
  exact ⟨t, step t a1, b1⟩
end EXS

