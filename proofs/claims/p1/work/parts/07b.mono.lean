/-! ===== a run stays when more is known, with more fuel, with more depth ===== -/
def ex_more (a b : ex_G) : Prop := b.1 = a.1 ∧ ∀ i c, a.2.1 i = some c → b.2.1 i = some c
section EXM
variable {a b : ex_G} {nL : Nat} {rt : Option FieldType} {pc nx x y z : Nat} {lv : ex_V} {st : List Value} {h : ex_H} {q : ex_O}
theorem ex_get_more (hm : ex_more a b) {i : Nat} {c : ex_C} (hg : ex_get a h i = some c) : ex_get b h i = some c := by
  unfold ex_get at hg ⊢
  rw [hm.1]
  cases hb : Nat.blt i a.1 with
  | true => rw [hb] at hg; exact hm.2 i c hg
  | false => rw [hb] at hg; exact hg
theorem ex_own_more (hm : ex_more a b) (i : Nat) : ex_own b h i = ex_own a h i := by
  unfold ex_own
  rw [hm.1]
theorem ex_gf_more (hm : ex_more a b) {ci k : Nat} (hs : ex_gf a ci k nx lv st h = some q) : ex_gf b ci k nx lv st h = some q := by
  unfold ex_gf at hs ⊢
  split at hs
  · split at hs
    · rename_i cj fs hg
      simp only [ex_get_more hm hg]
      exact hs
    · cases hs
  · cases hs
theorem ex_len_more (hm : ex_more a b) (hs : ex_len a nx lv st h = some q) : ex_len b nx lv st h = some q := by
  unfold ex_len at hs ⊢
  split at hs
  · split at hs
    · rename_i t n f hg
      simp only [ex_get_more hm hg]
      exact hs
    · cases hs
  · cases hs
theorem ex_xld_more (hm : ex_more a b) {t u : Nat} (hs : ex_xld a t u nx lv st h = some q) : ex_xld b t u nx lv st h = some q := by
  unfold ex_xld at hs ⊢
  split at hs
  · split at hs
    · rename_i k n f hg
      simp only [ex_get_more hm hg]
      exact hs
    · cases hs
  · cases hs
theorem ex_callV_more (hm : ex_more a b) {k n ci : Nat} (hs : ex_callV a k n ci nx lv st h = some q) : ex_callV b k n ci nx lv st h = some q := by
  unfold ex_callV at hs ⊢
  split at hs
  · split at hs
    · rename_i cj fs hg
      simp only [ex_get_more hm hg]
      exact hs
    · cases hs
  · cases hs
theorem ex_xast_more (hm : ex_more a b) (hs : ex_xast a nx lv st h = some q) : ex_xast b nx lv st h = some q := by
  obtain ⟨i, j, n, f, v, fs, r, h1, h2, h3, h4, rfl, rfl⟩ := ex_xast_v hs
  unfold ex_xast at hs ⊢
  simp only [ex_own_more hm, h1, hm.1, hm.2 _ _ h4] at hs ⊢
  simp only [h4] at hs
  have e : ex_set b h i = ex_set a h i := by funext c; unfold ex_set; rw [hm.1]
  rw [e]
  exact hs
theorem ex_cpy_more (hm : ex_more a b) (hs : ex_cpy a nx lv st h = some q) : ex_cpy b nx lv st h = some q := by
  unfold ex_cpy at hs ⊢
  simp only [ex_own_more hm]
  exact hs
theorem ex_set_more (hm : ex_more a b) : ex_set b h = ex_set a h := by
  funext i c
  unfold ex_set
  rw [hm.1]
set_option maxHeartbeats 4000000 in
theorem ex_step_more (hm : ex_more a b) {ins : Instr} (hs : ex_step a nL rt (ins, x, y, z, nx) pc lv st h = some q) : ex_step b nL rt (ins, x, y, z, nx) pc lv st h = some q := by
  cases ins with
  | getfield i => exact ex_gf_more hm hs
  | arraylength => exact ex_len_more hm hs
  | iaload => exact ex_xld_more hm hs
  | baload => exact ex_xld_more hm hs
  | invokevirtual i => exact ex_callV_more hm hs
  | aastore => exact ex_xast_more hm hs
  | putfield i =>
    have hs : ex_pf a (ex_ft x) x y nx lv st h = some q := hs
    show ex_pf b (ex_ft x) x y nx lv st h = some q
    unfold ex_pf at hs ⊢
    simp only [ex_own_more hm, ex_set_more hm]
    exact hs
  | laload =>
    have hs : ex_xlld a nx lv st h = some q := hs
    show ex_xlld b nx lv st h = some q
    unfold ex_xlld at hs ⊢
    simp only [ex_own_more hm]
    exact hs
  | aaload =>
    have hs : ex_xald a nx lv st h = some q := hs
    show ex_xald b nx lv st h = some q
    unfold ex_xald at hs ⊢
    simp only [ex_own_more hm]
    exact hs
  | iastore =>
    have hs : ex_xst a nx lv st h = some q := hs
    show ex_xst b nx lv st h = some q
    unfold ex_xst at hs ⊢
    simp only [ex_own_more hm, ex_set_more hm]
    exact hs
  | bastore =>
    have hs : ex_xbst a nx lv st h = some q := hs
    show ex_xbst b nx lv st h = some q
    unfold ex_xbst at hs ⊢
    simp only [ex_own_more hm, ex_set_more hm]
    exact hs
  | lastore =>
    have hs : ex_xlst a nx lv st h = some q := hs
    show ex_xlst b nx lv st h = some q
    unfold ex_xlst at hs ⊢
    simp only [ex_own_more hm, ex_set_more hm]
    exact hs
  | new i =>
    have hs : ex_new a (ex_ft x) x nx lv st h = some q := hs
    show ex_new b (ex_ft x) x nx lv st h = some q
    unfold ex_new at hs ⊢
    rw [hm.1]
    exact hs
  | newarray t =>
    have hs : ex_newa a t nx lv st h = some q := hs
    show ex_newa b t nx lv st h = some q
    unfold ex_newa at hs ⊢
    simp only [hm.1]
    exact hs
  | anewarray t =>
    have hs : ex_newq a nx lv st h = some q := hs
    show ex_newq b nx lv st h = some q
    unfold ex_newq at hs ⊢
    simp only [hm.1]
    exact hs
  | invokestatic i =>
    have hs : ex_callS a x y nx lv st h = some q := hs
    show ex_callS b x y nx lv st h = some q
    unfold ex_callS at hs ⊢
    cases hx : Nat.beq x 1000000 with
    | true => rw [hx] at hs; exact ex_cpy_more hm hs
    | false => rw [hx] at hs; exact hs
  | ifCond c off => cases c <;> exact hs
  | if_icmp c off => cases c <;> exact hs
  | _ => first | exact hs | cases (show (none : Option ex_O) = some q from hs)
end EXM
theorem ex_loop_more {a b : ex_G} (hm : ex_more a b) {ca cb : Nat → List Value → ex_H → Option (Option Value × ex_H)} (hc : ∀ k as h r, ca k as h = some r → cb k as h = some r) {nL : Nat} {rt : Option FieldType} {cd : List (List (Option ex_I))} :
    ∀ (n m : Nat) (f : ex_F) (r : Option Value × ex_H), n ≤ m → ex_loop a ca nL rt cd n f = some r → ex_loop b cb nL rt cd m f = some r := by
  intro n
  induction n with
  | zero => intro m f r _ hq; cases hq
  | succ n ih =>
    intro m f r hnm hq
    obtain ⟨m, rfl⟩ : ∃ k, m = k + 1 := ⟨m - 1, by omega⟩
    unfold ex_loop at hq ⊢
    cases he : ex_cd cd f.1 with
    | none => rw [he] at hq; cases hq
    | some ei =>
      rw [he] at hq
      simp only at hq ⊢
      obtain ⟨ins, x, y, z, nx⟩ := ei
      cases hs : ex_step a nL rt (ins, x, y, z, nx) f.1 f.2.1 f.2.2.1 f.2.2.2 with
      | none => rw [hs] at hq; cases hq
      | some q =>
        rw [hs] at hq
        rw [ex_step_more hm hs]
        rcases q with k | r1 | ⟨k, as, f1⟩
        · exact ih m k r (by omega) hq
        · exact hq
        · simp only at hq ⊢
          cases hcl : ca k as f1.2.2.2 with
          | none => rw [hcl] at hq; cases hq
          | some rh =>
            rw [hcl] at hq
            rw [hc _ _ _ _ hcl]
            obtain ⟨rv, h2⟩ := rh
            cases rv with
            | none => exact ih m _ r (by omega) hq
            | some v => exact ih m _ r (by omega) hq
/-- more known, more fuel, more depth, more methods: the same run -/
theorem ex_run_more {a b : ex_G} (hm : ex_more a b) {P P' : Nat → Option ex_M} (hP : ∀ k M, P k = some M → P' k = some M) {N N' : Nat} (hN : N ≤ N') : ∀ (d d' k : Nat) (as : List Value) (h : ex_H) (r : Option Value × ex_H), d ≤ d' → ex_run a P N d k as h = some r → ex_run b P' N' d' k as h = some r := by
  intro d
  induction d with
  | zero => intro d' k as h r _ hq; cases hq
  | succ d ih =>
    intro d' k as h r hd hq
    obtain ⟨d', rfl⟩ : ∃ k, d' = k + 1 := ⟨d' - 1, by omega⟩
    unfold ex_run at hq ⊢
    cases hk : P k with
    | none => rw [hk] at hq; cases hq
    | some M =>
      rw [hk] at hq
      rw [hP k M hk]
      simp only at hq ⊢
      cases hw : Nat.ble (ex_w as) M.2.2.1 with
      | false => rw [hw] at hq; cases hq
      | true =>
        rw [hw] at hq
        exact ex_loop_more hm (fun k as h r hc => ih d' k as h r (by omega) hc) N N' _ r hN hq

