/-! ===== the law's walk, out of the interpreter's run ===== -/
theorem ex_law_ok {p : Program} {l : Launch} {e : Env} {s : State} {m : MethodId} {b : Nat} {below : List Frame} {meth : Method} {c : Code} {g : ex_G} {o : ex_P} {P : Nat → Option ex_M} {d : Nat} {call : Nat → List Value → ex_H → Option (Option Value × ex_H)} {cd : List (List (Option ex_I))} {h' : ex_H}
    (C : ex_Cx g o p s m #[Value.ref b] meth c code 4 ret "PaperHouseLaw" "law" room_1) (hP : ∀ k M, P k = some M → ex_okM g P M) (hcd : ∀ (pc : Nat) (e : ex_I), ex_cd cd pc = some e → ex_dec code pc e ∧ ex_lk g P "PaperHouseLaw" "law" pc e) (hcall : ex_callOk g o P l d call) (hf : d + 1 ≤ room_1.frames) (hlo : 60 * (d + 1) ≤ room_1.locals) (hRc : h'.1.length ≤ 600000) (hRs : h'.2 ≤ 7302250) (hB : s.heap.size ≤ o.2.2.2) :
    ∀ (n : Nat) (f : ex_F), ex_loop g call 4 ret cd n f = some (some (.int 1), h') → ∀ (H : Heap) (ls : Array Slot) (locs : List Loc) (cells slots : Nat), ex_At g o 4 0 0 s.heap f H ls locs cells slots →
      W p l e room_1 s m #[Value.ref b] below meth c H locs cells slots (lw_Z below #[Value.ref b] s) (F0 m f.1 ls (f.2.2.1.map (ex_cv g o))) := by
  have hmono := ex_loop_mono (g := g) (nL := 4) (rt := ret) (cd := cd) (fun k as h r h' q => (hcall k as h r h' q).1)
  have r1 : room_1.cells = 600000 := rfl
  have r2 : room_1.slots = 7302250 := rfl
  intro n
  induction n with
  | zero => intro f hq; cases hq
  | succ n ih =>
    intro f hq H ls locs cells slots hA
    unfold ex_loop at hq
    cases he : ex_cd cd f.1 with
    | none => rw [he] at hq; cases hq
    | some ei =>
      rw [he] at hq
      simp only at hq
      obtain ⟨hd, hk⟩ := hcd _ _ he
      obtain ⟨ins, x, y, z, nx⟩ := ei
      cases hs : ex_step g 4 ret (ins, x, y, z, nx) f.1 f.2.1 f.2.2.1 f.2.2.2 with
      | none => rw [hs] at hq; cases hq
      | some q =>
        rw [hs] at hq
        rcases ex_kind hs with ⟨f1, rfl, h1, h2⟩ | ⟨r1', rfl, hR⟩ | ⟨k, as, f1, rfl, h1, -⟩
        · obtain ⟨h3, h4⟩ := hmono n f1 _ h' hq
          exact ex_next C hd hk hs hA (by omega) (by omega) (fun H1 ls1 locs1 cells1 slots1 hA1 => ih f1 hq H1 ls1 locs1 cells1 slots1 hA1)
        · obtain ⟨hx, hb, hml, hown, hts, hK, hX, hlocks, hr, hmn, hco, hBs, hRf, hRl⟩ := C
          obtain ⟨hl, hW, hS, hc, hsl⟩ := hA
          obtain ⟨pc, lv, st, h⟩ := f
          have hq : some (r1', h) = some (some (Value.int 1), h') := hq
          cases hq
          have hc : cells + 0 = h'.1.length := hc
          have hsl : slots + 0 = h'.2 := hsl
          cases ins with
          | ireturn =>
            obtain ⟨v, ty, hty, rfl, hn, e1⟩ := ex_ret_v (show ex_ret ret st h' = some (.inr (.inl (some (.int 1), h'))) from hs)
            cases e1
            exact va_forget (fun q hq => Nat.le_trans hB (hS.2.2 q hq)) (W.widen (k := 600000) (n := 7302250) (by omega) (by omega) (lw_ret hx hb hr hlocks hd.1))
          | lreturn =>
            obtain ⟨v, hty, rfl, e1⟩ := ex_lret_v (show ex_lret ret st h' = some (.inr (.inl (some (.int 1), h'))) from hs)
            cases e1
          | areturn =>
            obtain ⟨v, Cn, hty, rfl, e1⟩ := ex_aret_v (show ex_aret ret st h' = some (.inr (.inl (some (.int 1), h'))) from hs)
            cases e1
          | return_ =>
            obtain ⟨hty, rfl, e1⟩ := ex_vret_v (show ex_vret ret st h' = some (.inr (.inl (some (.int 1), h'))) from hs)
            cases e1
          | _ => exact absurd rfl hR
        · simp only at hq
          rw [h1] at hq
          cases hcl : call k as f.2.2.2 with
          | none => rw [hcl] at hq; cases hq
          | some rh =>
            obtain ⟨rv, h2⟩ := rh
            rw [hcl] at hq
            obtain ⟨⟨g1, g2⟩, hM⟩ := hcall _ _ _ _ _ hcl
            cases rv with
            | none =>
              obtain ⟨h3, h4⟩ := hmono n _ _ h' hq
              have h3 : h2.1.length ≤ h'.1.length := h3
              have h4 : h2.2 ≤ h'.2 := h4
              exact ex_calls C hP hd hk hs hA hf hlo g1 g2 (by omega) (by omega) hM (fun H1 locs1 cells1 slots1 hA1 => ih _ hq H1 ls locs1 cells1 slots1 hA1)
            | some v =>
              obtain ⟨h3, h4⟩ := hmono n _ _ h' hq
              have h3 : h2.1.length ≤ h'.1.length := h3
              have h4 : h2.2 ≤ h'.2 := h4
              exact ex_calls C hP hd hk hs hA hf hlo g1 g2 (by omega) (by omega) hM (fun H1 locs1 cells1 slots1 hA1 => ih _ hq H1 ls locs1 cells1 slots1 hA1)
theorem whole_start {p : Program} {e : Env} {s : State} {m : MethodId} {below : List Frame} {meth : Method} {c : Code} (l : Launch) (hflags : l.flags = flags0) {b L : Nat} {xs : Nat → Int32} (hL : L ≤ 6) (C0 : lw_At p s m meth c b L xs) : W p l e room_1 s m #[Value.ref b] below meth c s.heap [] 0 0 (lw_Z below #[Value.ref b] s) (entryFrame m ([Value.ref b] : List Value).toArray 4) := by
  obtain ⟨hx, hb, hr, hml, hown, hts, hX, hbl, hlocks, hgv⟩ := C0
  obtain ⟨o, hB, h147, hK, hXX⟩ := ex_start hts hgv hX hbl hL
  obtain ⟨h', hrun, b1, b2⟩ := ex_law hL xs
  rw [ex_klaw_eq, ex_loopF_eq] at hrun
  have C : ex_Cx (ex_g L xs) o p s m #[Value.ref b] meth c code 4 ret "PaperHouseLaw" "law" room_1 :=
    ⟨hx, hb, hml, hown, fun w hw => hts w (List.mem_filter.mp hw).1, hK, hXX, hlocks, hr, (fun h => absurd h (by decide)), ex_clsOk_p, by rw [hB]; exact Nat.le_refl _, by decide, by decide⟩
  have hargs : ([Value.ref b] : List Value) = ([Value.ref 147] : List Value).map (ex_cv (ex_g L xs) o) := by
    have e : ex_ad (ex_g L xs) o 147 = b := (if_pos (show (147 : Nat) < (ex_g L xs).1 from (by decide : (147 : Nat) < 148))).trans h147
    show [Value.ref b] = [Value.ref (ex_ad (ex_g L xs) o 147)]
    rw [e]
  rw [lg_entry_eq]
  have hl := lv_entry ([Value.ref b] : List Value) (n := 4) (show 1 ≤ 4 by decide)
  generalize (lg_sl ([Value.ref b] : List Value) ++ List.replicate (4 - (lg_sl ([Value.ref b] : List Value)).length) Slot.unset).toArray = ls at hl ⊢
  have hl : lv_has ls 4 (ex_lm (ex_g L xs) o (lv_args 0 [Value.ref 147])) := by
    rw [← ex_lm_args, ← hargs]
    exact hl
  exact ex_law_ok C (ex_P0_ok L xs) (ex_lawrows L xs) (ex_run_ok (N := 1000000) (ex_P0_ok L xs) ex_clsOk_p l 20) (by decide) (by decide) (by omega) (by omega) (by rw [hB]; exact Nat.le_refl _) 200 (0, [(0, .ref 147)], [], ([], 0)) hrun s.heap ls [] 0 0
    ⟨hl, ⟨by rw [hB]; rfl, fun i c hi => by cases hi⟩, va_S.rf, rfl, rfl⟩
set_option maxHeartbeats 4000000 in
theorem lw_walk (l : Launch) (hflags : l.flags = flags0) (b : Addr) (xs : List Int32) : MetFree l x (headSpec (Jvm.Cond.code x code maxLocals ret :: tables_1) room_1) (lw_P b xs) (fun _ _ _ _ _ => True) lw_Q := by
  refine MetFree.of_bodyS (code := code) (maxLocals := maxLocals) (ret := ret) (by decide) ?_ ?_
  · intro args s m h hn
    obtain ⟨meth, c, h1, h2, h3, h4, h5, h6, -, -⟩ := Cond.code_spec hn (atoms_spec (ws := Jvm.Cond.code x code maxLocals ret :: tables_1) h _ List.mem_cons_self)
    exact ⟨meth, c, h1, h2, h3, h4, h5, h6⟩
  · intro p e s m args below meth c s₁ B hml0 hP _
    obtain ⟨rfl, hx, hbd, hgv⟩ := hP
    obtain ⟨scr, harrAt, hlist, hof, hsmall⟩ := hx
    obtain ⟨hcb, hkn, -, -⟩ := State.arrayAt?_spec harrAt
    have hown : s.vm.findClass R_law = some m.cls := findClass_of_methodNamed B.named
    have hts0 : ∀ c ∈ (Jvm.Cond.code x code maxLocals ret :: tables_1), c.before #[Value.ref b] s = true := atoms_spec (ws := Jvm.Cond.code x code maxLocals ret :: tables_1) B.pre
    have hts : ∀ w ∈ lw_tbl, w.before #[Value.ref b] s = true := k2_hts_sels lw_privs (fun w hw => hts0 w (List.mem_cons_of_mem _ hw)) lw_privs_ok
    have hml : c.maxLocals = 4 := B.maxLocals_eq (hts0 _ List.mem_cons_self)
    have X₀ : Stand p l e room_1 s m #[Value.ref b] below meth c s₁ [] 0 0 := Stand.of_body B
    have hh0 : s₁.heap = s.heap := by rw [B.state]; rfl
    have hsz : scr.slots.size = xs.length := by rw [← Array.length_toList, hlist, List.length_map]
    have hval : ∀ j : Nat, j < xs.length → scr.slots[j]? = some (.int (xs.getD j 0)) := fun j hj => by
      rw [← Array.getElem?_toList, hlist]
      simp [hj]
    have hbl : b < s.heap.size := (Array.getElem?_eq_some_iff.mp hcb).1
    have hX : va_X b xs.length (fun j => xs.getD j 0) s s.heap := ⟨scr, hcb, hof, hkn, hsz, hval⟩
    have K : W p l e room_1 s m #[Value.ref b] below meth c s₁.heap [] 0 0 (lw_Z below #[Value.ref b] s) (entryFrame m ([Value.ref b] : List Value).toArray 4) := by
      rw [hh0]
      exact whole_start l hflags hbd ⟨B.exec, B.bytes, B.returns, hml, hown, hts, hX, hbl, B.notSynchronized, hgv⟩
    obtain ⟨t, a1, o, b1, b2, b3⟩ := K s₁ rfl X₀
    exact ⟨t, o, a1, b1, b2, b3⟩
theorem lw_pre_spec {args : Array Value} {s : State} (h : (Jvm.Cond.and given_1 narrow_1).before args s = true) (hr : rest_1_c.before args s = true) : ∃ (b : Addr) (xs : List Int32), lw_P b xs args s := by
  have hs := flat_of_before _ h
  have hq := flat_of_before _ hr
  have hc : (Cond.count 1).before args s = true := hs _ (by decide +kernel)
  have harr : (Cond.arrayOf (.arg 0) .int).before args s = true := hs _ (by decide +kernel)
  have hle : (Cond.le (.length (.arg 0)) (.int 6)).before args s = true := hs _ (by decide +kernel)
  have hlen : (Cond.isInt (.length (.arg 0))).before args s = true := hq _ (by decide +kernel)
  have hall : (Cond.all (.arg 0) (.isInt (.elem (.arg 0) (.index 0)))).before args s = true := hq _ (by decide +kernel)
  obtain ⟨b, xs, hb, hx⟩ := State.ints_of_pre rfl harr hlen hall
  have hsm : xs.length < 2 ^ 31 := hx.choose_spec.2.2.2
  have hev : (Term.length (.arg 0)).eval args s none [] s = some (.int xs.length.toInt32) := hx.length_eval hb
  have hv := Cond.le_ints hev (show (Term.int 6).eval args s none [] s = some (.int 6) from rfl)
  have hd : xs.length.toInt32 ≤ 6 := by
    simpa [Cond.before, Cond.holds, hv] using hle
  have hN : xs.length ≤ 6 := (Int32.ofNat_le_ofNat hsm (by decide)).mp (show Int32.ofNat xs.length ≤ Int32.ofNat 6 from hd)
  exact ⟨b, xs, Cond.one_arg hc (show args[0]? = some (.ref b) from hb), hx, hN, h⟩
theorem lw_comes (l : Launch) (hflags : l.flags = flags0) : Comes l x (Jvm.Cond.code x code maxLocals ret :: tables_1) room_1 (fun tb e args s => Calls_1 tb e args s ∧ rest_1 tb e args s ∧ Pre_1 tb e args s)
    (fun _ _ args s o t => lw_Q args s o t) := by
  intro p e ha hc hk s m args below hf hfit hheap happ hpre
  obtain ⟨b, xs, hP⟩ := lw_pre_spec hpre.2.2 hpre.2.1
  obtain ⟨k, o, h1, h2, h3, hQ⟩ := lw_walk l hflags b xs p e ha hc hk s m args below hf ((Spec.applies_iff_loose hf).mp happ).1 hP trivial
  exact ⟨k, o, h1, h2, h3, hQ⟩
theorem lw_frame {s t : State} {o : Outcome} {args : Array Value} (h : Framed s o t [] 600000 7302250) :
    Framed s o t (fieldLocs frame_1_writes args s ++ arrayLocs frame_1_arrays args s ++ staticLocs frame_1_statics s) 600000 7302250 := h
theorem lw_limb (L : Cond) (hL : ∀ (args : Array Value) (s t : State), L.after args s (.returned (some (.int 1))) t = true) :
    ArmFor flags0 classFile x code maxLocals ret World_1 tables_1 room_1 Calls_1 rest_1 Pre_1
      (fun tb e a s o t => postC L tb e a s o t ∧ Framed s o t (fieldLocs frame_1_writes a s ++ arrayLocs frame_1_arrays a s ++ staticLocs frame_1_statics s) 600000 7302250) := by
  intro l hflags _ _ p e ha hc hk s m args below hf hfit hheap happ hpre
  obtain ⟨k, o, h1, h2, h3, rfl, hF⟩ := lw_comes l hflags p e ha hc hk s m args below hf hfit hheap happ hpre
  exact ⟨k, _, h1, h2, h3, hL args s _, lw_frame hF⟩
theorem i_vc : Claimed_1_1 ∧ Claimed_1_2 := ⟨lw_limb limb_1_1 (fun args s t => by simp [limb_1_1, Cond.after, Cond.holds, Cond.value]), lw_limb limb_1_2 (fun args s t => Cond.after_iff.mpr (by
  first | (rw [show limb_1_2 = Cond.eq .result (.int 1) from rfl, Cond.eq_ints (x := 1) (y := 1) rfl rfl]; simp; done) | (simp [limb_1_2, Cond.value, Term.eval]; done)))⟩
