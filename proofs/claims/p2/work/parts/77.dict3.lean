/-! ===== dicts: the loop ===== -/
section DM
variable {g g0 g1 g' : s_g} {m m0 m' m1 m2 n n0 n' n1 n2 : w_M} {P L p p0 q e a b s c D refs R : Int} {W : Int → Int} {l l' : List Int} {Q : Int → w_M → Prop} {d d' : Nat}
/-- a field of the reference is written -/
theorem r_nm_428 {S : Nat → Prop} {j v : Int} (hn : w_nm (w_G0 S) n) (hS : S 428) (hj : j = 17 ∨ j = 29 ∨ j = 31) (hv : -2147483648 ≤ v ∧ v < 2147483648) : w_nm (w_G0 S) (w_up n 428 j v) := by
  have hE : w_wr (w_G0 S) (428 : Int).toNat := ⟨by show 357 ≤ 428; decide, hS⟩
  rcases hj with e | e | e
  · subst e
    exact w_pf_nm (k := 17) (s := 0) hn (by decide) (w_sh0_eq.trans s0_428) hE rfl hv
  · subst e
    exact w_pf_nm (k := 29) (s := 0) hn (by decide) (w_sh0_eq.trans s0_428) hE rfl hv
  · subst e
    exact w_pf_nm (k := 31) (s := 0) hn (by decide) (w_sh0_eq.trans s0_428) hE rfl hv
/-- the names stay numbered where their nodes stay -/
theorem s_nb.wr (h : s_nb g m l) (hm6 : m' 359 6 = m 359 6) (hg : ∀ y ∈ l, g'.1 y = g.1 y ∧ m' 364 (g.1 y) = m 364 (g.1 y)) (hk : ∀ y ∈ l, ∀ i, 361 ≤ i → i ≤ 363 → m' i (m 364 (g.1 y)) = m i (m 364 (g.1 y))) (hb : ∀ b, m' 365 b = m 365 b) : s_nb g' m' l := by
  intro y hy
  obtain ⟨h1, h2⟩ := h y hy
  obtain ⟨e1, e2⟩ := hg y hy
  have ek := hk y hy
  rw [e1, e2]
  unfold s_tn at h1 ⊢
  rw [hm6, ek 361 (by decide) (by decide), ek 362 (by decide) (by decide), ek 363 (by decide) (by decide)]
  refine ⟨h1, ?_⟩
  rw [h2]
  exact s_hs_eq _ (fun i _ _ => (hb _).symm)
/-- no key: the class stops -/
theorem sp_comp_nokey {C0 zc x at' : Int} (hP : w_isP P) (hQ : Q (-1) m') : xp_ps_compound_184 d P D 1 C0 zc x at' (-1) m' Q := by
  apply xr_ps_compound_184 hP
  rw [if_neg (by decide), if_pos (by decide), if_neg (by decide), if_pos (by decide)]
  apply xr_ps_compound_234 hP
  rw [if_pos (by decide)]
  exact hQ
/-- an entry more: both stores -/
theorem s_dstep {zc zr S e2 : Int} {mw mk nk : w_M} (h : s_LI g0 g m0 n0 mw n P W L q R 7 l) (hlast : (l = [] ∧ zr = -1 ∧ zc = -1) ∨ (zr ∈ l ∧ n 437 zr = -1 ∧ zc = g.1 zr)) (hq : q ≤ e2) (hP : w_isP P)
    (kfp : s_fp mw mk P) (kfr : s_fr n nk) (mk6 : mk 359 6 = mw 359 6 + 1) (k15 : nk 428 15 = n 428 15) (kky : s_ky mk nk (mw 359 6) (n 428 17) S) (k360 : mk 360 (mw 359 6) = 4) (nk440 : ∀ b : Int, nk 440 b = n 440 b) (nk17 : nk 428 17 = n 428 17 + S)
    (e26 : n 428 26 = S) (ntw : ∀ w ∈ l, ¬ s_kt n w)
    (o5 : s_J g1 m1 n1 P W L e2) (o6 : s_ex g g1 (n 428 15)) (o7 : s_fp mk m1 P) (frk : s_fr nk n1)
    (t1 : g1.1 (n 428 15) = mk 359 6) (t2 : g1.2.2.2.2.1 (n 428 15) = R - 1) (hR1 : 1 ≤ R) (t3 : g1.2.2.1 (n 428 15) = -1) (t4 : n1 437 (n 428 15) = -1) (t6 : g1.2.2.2.2.2 (n 428 15) = n1 428 15) (t7 : n 428 15 < n1 428 15) (t8 : mk 359 6 < m1 359 6) (t9 : s_rg g1 m1 n1 (mk 359 6) (n 428 15) (m1 359 6) (n1 428 15))
    (x1 : ∀ i j : Int, ¬ (i = 363 ∧ 0 ≤ zc ∧ j = zc) → ¬ ((i = 361 ∨ i = 362) ∧ j = m0 359 6) → ¬ (i = 364 ∧ j = mk 359 6) → m2 i j = m1 i j) (x2 : m2 364 (mk 359 6) = mw 359 6) (x3 : m2 361 (m0 359 6) = (if (l.length : Int) = 0 then mk 359 6 else m1 361 (m0 359 6))) (x4 : m2 362 (m0 359 6) = l.length + 1) (x5 : 0 ≤ zc → m2 363 zc = mk 359 6)
    (hn2 : n2 = (if zr < 0 then w_up (w_up (w_up (w_up n1 438 (n 428 15) (n 428 17)) 439 (n 428 15) S) 436 (n0 428 15) (n 428 15)) 435 (n0 428 15) ((l.length : Int) + 1) else w_up (w_up (w_up (w_up n1 438 (n 428 15) (n 428 17)) 439 (n 428 15) S) 437 zr (n 428 15)) 435 (n0 428 15) ((l.length : Int) + 1))) :
    s_LI g0 (s_ga g1 (n0 428 15) (n 428 15)) m0 n0 m2 n2 P W L e2 R 7 (l ++ [n 428 15]) ∧ n2 437 (n 428 15) = -1 ∧ (∀ j : Int, n2 428 j = n1 428 j) := by
  have hP' := w_isP_o hP
  have hbd1 := o5.1.1
  unfold s_bd at hbd1
  obtain ⟨i1, i2, i3, i4, i5, i6, i7, i8, i9', j1, j2, j3, j4, j5, j6, j7, j8, j9, j10, j11⟩ := h
  have ls := (i1.1.2.2.2.2 (n0 428 15) j10 i5 (by rw [i7]; exact Or.inr rfl)).1
  obtain ⟨ls1, ls2, ls3, ls4⟩ := ls
  rw [i9'] at ls1 ls2 ls3 ls4
  have mem := ls1.mem
  have dk := (ls4 i7).1
  have pair : ∀ w ∈ l, s_ky mw n (mw 364 (g.1 w)) (n 438 w) (n 439 w) ∧ 0 ≤ mw 364 (g.1 w) := fun w hw => ⟨(i1.1.2.1 w (mem w hw).1 (mem w hw).2).2.2.2.2.2.2.2.2.2.2, dk w hw⟩
  have memz : zr ∈ l → 0 ≤ zr ∧ zr < n 428 15 := fun v => mem zr v
  have zcl : (0 ≤ zc ↔ zr ∈ l) := by
    rcases hlast with v | v
    · rw [v.1, v.2.2]
      constructor
      · intro y; omega
      · intro y; cases y
    · have mz := memz v.1
      have nz := (i1.1.2.1 zr mz.1 mz.2).1
      rw [v.2.2]
      exact ⟨fun _ => v.1, fun _ => by omega⟩
  have zrl : zr < 0 ↔ l = [] := by
    rcases hlast with v | v
    · exact ⟨fun _ => v.1, fun _ => by omega⟩
    · have mz := memz v.1
      exact ⟨fun y => by omega, fun y => by rw [y] at v; cases v.1⟩
  have lnil : ((l.length : Int) = 0 ↔ l = []) := by
    rw [← List.length_eq_zero_iff]; omega
  have n1_of : ∀ b, 0 ≤ b → b < n 428 15 → ∀ i, 432 ≤ i → i ≤ 439 → n1 i b = n i b := fun b q1 q2 i i1 i2 => (kfr.tr frk).mf.2.2.1 i b i1 i2 q1 q2
  have m1_mk : ∀ i, 360 ≤ i → i ≤ 364 → m1 i (mw 359 6) = mk i (mw 359 6) := fun i i1' i2' => (o7.cf hP).2.2.1 i _ i1' i2' (by have := i1.1.1; unfold s_bd at this; omega) (by omega)
  have J1n := o5.nam (y := n 428 15) (K := mw 359 6) (kf := n 428 17) (ks := S) ⟨by omega, t7⟩ t3 (kky.fr (o7.cf hP) frk.mf) (fun c q1 q2 => by
    by_cases v : c < n 428 15
    · rw [(o6 c q1 v).1]
      have := (i1.1.2.1 c q1 v).2.1
      omega
    · have := (t9.1 c (by omega) q2).1
      omega)
  obtain ⟨m1n, hm1n⟩ : ∃ m1n, m1n = w_up m1 364 (g1.1 (n 428 15)) (mw 359 6) := ⟨_, rfl⟩
  obtain ⟨n1n, hn1n⟩ : ∃ n1n, n1n = w_up (w_up n1 438 (n 428 15) (n 428 17)) 439 (n 428 15) S := ⟨_, rfl⟩
  rw [← hm1n, ← hn1n] at J1n
  rw [← hn1n] at hn2
  have m1no : ∀ i j : Int, ¬ (i = 364 ∧ j = mk 359 6) → m1n i j = m1 i j := by
    intro i j v
    rw [hm1n, t1]
    unfold w_up
    rw [if_neg v]
  have m1nk : m1n 364 (mk 359 6) = mw 359 6 := by rw [hm1n, t1, w_up_eq]
  have n1no : ∀ i j : Int, ¬ ((i = 438 ∨ i = 439) ∧ j = n 428 15) → n1n i j = n1 i j := by
    intro i j v
    rw [hn1n]
    unfold w_up
    rw [if_neg (by omega), if_neg (by omega)]
  have n1nf : n1n 438 (n 428 15) = n 428 17 := by rw [hn1n, w_up_ne (by decide), w_up_eq]
  have n1ns : n1n 439 (n 428 15) = S := by rw [hn1n, w_up_eq]
  have n435 : n1 435 (n0 428 15) = l.length := by
    rw [n1_of _ j10 i5 435 (by decide) (by decide)]
    exact ls2
  have n2o : ∀ i j : Int, ¬ (i = 437 ∧ zr ∈ l ∧ j = zr) → ¬ ((i = 435 ∨ i = 436) ∧ j = n0 428 15) → n2 i j = n1n i j := by
    intro i j y1 y2
    rw [hn2]
    split
    · unfold w_up
      rw [if_neg (by omega), if_neg (by omega)]
    · rename_i v
      have : zr ∈ l := by
        rcases hlast with w | w
        · omega
        · exact w.1
      unfold w_up
      rw [if_neg (by omega), if_neg (fun w => y1 ⟨w.1, this, w.2⟩)]
  have m2o : ∀ i j : Int, ¬ (i = 363 ∧ 0 ≤ zc ∧ j = zc) → ¬ ((i = 361 ∨ i = 362) ∧ j = m0 359 6) → m2 i j = m1n i j := by
    intro i j y1 y2
    by_cases v : i = 364 ∧ j = mk 359 6
    · rw [v.1, v.2, x2, m1nk]
    · rw [m1no i j v]; exact x1 i j y1 y2 v
  have fpn : s_fp mw m1n P := by
    have x := kfp.tr o7
    exact ⟨by rw [m1no _ _ (by omega)]; exact x.1, by rw [m1no _ _ (by omega)]; exact x.2.1, fun i j v1 v2 v3 v4 => (m1no i j (by omega)).trans (x.2.2 i j v1 v2 v3 v4)⟩
  have frn : s_fr n n1n := by
    have x := kfr.tr frk
    exact ⟨by rw [n1no _ _ (by omega)]; exact x.1, by rw [n1no _ _ (by omega)]; exact x.2.1, fun i j v1 v2 v3 => (n1no i j (by omega)).trans (x.2.2 i j v1 v2 v3)⟩
  have n1n428 : ∀ j : Int, n1n 428 j = n1 428 j := fun j => n1no _ _ (by omega)
  have m1n359 : ∀ j : Int, m1n 359 j = m1 359 j := fun j => m1no _ _ (by omega)
  have hrg : s_rg g1 m1n n1n (mw 359 6) (n 428 15) (m1n 359 6) (n1n 428 15) := by
    rw [m1n359, n1n428]
    refine ⟨fun b q1 q2 => ?_, fun c q1 q2 => ?_⟩
    · rw [n1no 432 b (by omega)]
      obtain ⟨v1, v2⟩ := t9.1 b q1 q2
      exact ⟨by omega, v2⟩
    · rw [m1no 360 c (by omega)]
      by_cases v : c = mw 359 6
      · rw [v, m1_mk 360 (by decide) (by decide)]
        exact Or.inr k360
      · exact t9.2 c (by omega) q2
  have hdis : ∀ w ∈ l, ¬ s_ke n1n w (n 428 15) := by
    intro w hw v
    refine ntw w hw ?_
    obtain ⟨v1, v2⟩ := v
    have wm := mem w hw
    rw [n1no 439 w (by omega), n1_of w wm.1 wm.2 439 (by decide) (by decide)] at v1 v2
    rw [n1ns] at v1
    rw [n1no 438 w (by omega), n1_of w wm.1 wm.2 438 (by decide) (by decide), n1nf] at v2
    refine ⟨by rw [e26]; exact v1, fun i q1 q2 => ?_⟩
    have v3 := v2 i q1 q2
    obtain ⟨p1, p2⟩ := pair w hw
    have in1 : n 438 w + i < n 428 17 ∨ 140000 ≤ n 438 w + i := by
      rcases p1 with p1 | ⟨a1, a2, a3, a4, b1, b2, b3, b4, b5, b6⟩
      · omega
      · omega
    rw [n1no 440 _ (by omega), n1no 440 _ (by omega), frk.mf.2.2.2 _ (by omega), frk.mf.2.2.2 _ (by omega), nk440, nk440] at v3
    exact v3
  have st := s_LI.step (g1 := g1) (m1 := m1n) (n1 := n1n) (m2 := m2) (n2 := n2) (e := e2) (z := zr) (Ck := mk 359 6) ⟨i1, i2, i3, i4, i5, i6, i7, i8, i9', j1, j2, j3, j4, j5, j6, j7, j8, j9, j10, j11⟩
    (by rcases hlast with v | v
        · exact Or.inl ⟨v.1, v.2.1⟩
        · exact Or.inr ⟨v.1, v.2.1⟩) J1n hq o6 fpn frn t1 t2 hR1 t3 (by rw [n1no _ _ (by omega)]; exact t4) (by rw [n1n428]; exact t6) (by rw [n1n428]; exact t7) ⟨by omega, by rw [m1n359]; exact t8⟩
    hrg (fun _ => ⟨by rw [m1nk]; have := i1.1.1; unfold s_bd at this; omega, hdis⟩)
    (fun i j y1 y2 => m2o i j (fun w => y1 ⟨w.1, zcl.1 w.2.1, by
          rcases hlast with y | y
          · omega
          · rw [← y.2.2]; exact w.2.2⟩) y2)
    n2o (by rw [x3, m1no 361 _ (by omega)]
            by_cases v : l = []
            · rw [if_pos v, if_pos (lnil.2 v)]
            · rw [if_neg v, if_neg (fun w => v (lnil.1 w))]) x4
    (fun v => by
      rcases hlast with y | y
      · rw [y.1] at v; cases v
      · rw [← y.2.2]; exact x5 (zcl.2 v))
    (by rw [hn2]
        by_cases v : l = []
        · rw [if_pos v, if_pos (zrl.2 v), w_up_ne (by decide), w_up_eq]
        · rw [if_neg v, if_neg (fun w => v (zrl.1 w)), w_up_ne (by decide), w_up_ne (by decide)])
    (by rw [hn2]; split <;> rw [w_up_eq])
    (fun v => by
      rw [hn2, if_neg (fun w => by have := memz v; omega), w_up_ne (by decide), w_up_eq])
  exact ⟨st.1, st.2, fun j => (n2o _ _ (by omega) (by omega)).trans (n1n428 j)⟩
/-- the names are numbered, also the new one -/
theorem s_dnb {zc zr S : Int} {mw mk nk : w_M} (h : s_LI g0 g m0 n0 mw n P W L q R 7 l) (hlast : (l = [] ∧ zr = -1 ∧ zc = -1) ∨ (zr ∈ l ∧ n 437 zr = -1 ∧ zc = g.1 zr)) (hP : w_isP P) (nbw : s_nb g mw l)
    (kfp : s_fp mw mk P) (mk6 : mk 359 6 = mw 359 6 + 1) (kJ : s_st g mk nk) (k15 : nk 428 15 = n 428 15) (k361 : mk 361 (mw 359 6) = mw 359 7) (k362 : mk 362 (mw 359 6) = S) (k363 : mk 363 (mw 359 6) = s_hs mk (mw 359 7) S.toNat) (mk7 : mk 359 7 = mw 359 7 + S) (hS0 : 0 ≤ S) (hS1 : mw 359 7 + S ≤ 108612)
    (o5 : s_J g1 m1 n1 P W L e) (o6 : s_ex g g1 (n 428 15)) (o7 : s_fp mk m1 P) (t1 : g1.1 (n 428 15) = mk 359 6) (t7 : n 428 15 < n1 428 15) (t8 : mk 359 6 < m1 359 6)
    (x1 : ∀ i j : Int, ¬ (i = 363 ∧ 0 ≤ zc ∧ j = zc) → ¬ ((i = 361 ∨ i = 362) ∧ j = m0 359 6) → ¬ (i = 364 ∧ j = mk 359 6) → m2 i j = m1 i j) (x2 : m2 364 (mk 359 6) = mw 359 6) :
    s_nb (s_ga g1 (n0 428 15) (n 428 15)) m2 (l ++ [n 428 15]) := by
  have hP' := w_isP_o hP
  obtain ⟨i1, i2, i3, i4, i5, i6, i7, i8, i9', j1, j2, j3, j4, j5, j6, j7, j8, j9, j10, j11⟩ := h
  have ls := (i1.1.2.2.2.2 (n0 428 15) j10 i5 (by rw [i7]; exact Or.inr rfl)).1
  obtain ⟨ls1, ls2, ls3, ls4⟩ := ls
  rw [i9'] at ls1 ls2 ls3 ls4
  have mem := ls1.mem
  have hbw := i1.1.1
  unfold s_bd at hbw
  have zcr : zc < 0 ∨ (0 ≤ zc ∧ zc < mw 359 6) := by
    rcases hlast with v | v
    · left; omega
    · right
      have nz := i1.1.2.1 zr (mem zr v.1).1 (mem zr v.1).2
      have := nz.1
      have := nz.2.1
      rw [v.2.2]
      omega
  have c0lt : m0 359 6 < mw 359 6 := i6
  have mk_cf := o7.cf hP
  have m26 : m2 359 6 = m1 359 6 := x1 _ _ (by omega) (by omega) (by omega)
  have nb1 : s_nb g m1 l := ((nbw.cf i1.1 (fun y hy => mem y hy) (kfp.cf hP)).cf kJ (fun y hy => ⟨(mem y hy).1, by rw [k15]; exact (mem y hy).2⟩) mk_cf)
  have old : s_nb (s_ga g1 (n0 428 15) (n 428 15)) m2 l := by
    refine nb1.wr m26 (fun y hy => ⟨(o6 y (mem y hy).1 (mem y hy).2).1, ?_⟩) (fun y hy i i1' i2' => ?_) (fun b => x1 _ _ (by omega) (by omega) (by omega))
    · have := (i1.1.2.1 y (mem y hy).1 (mem y hy).2).2.1
      exact x1 _ _ (by omega) (by omega) (by omega)
    · have gy := (o6 y (mem y hy).1 (mem y hy).2).1
      have kn : ∀ c, 0 ≤ c → c < n1 428 15 → m1 364 (g1.1 y) ≠ g1.1 c := fun c q1 q2 => o5.1.2.2.2.1 y c (mem y hy).1 (by have := (mem y hy).2; omega) q1 q2
      rw [gy] at kn
      refine x1 _ _ (fun v => ?_) (fun v => ?_) (by omega)
      · rcases hlast with w | w
        · omega
        · have wm := mem zr w.1
          exact kn zr wm.1 (by omega) (by rw [(o6 zr wm.1 wm.2).1, ← w.2.2]; exact v.2.2)
      · refine kn (n0 428 15) j10 (by omega) ?_
        rw [(o6 (n0 428 15) j10 i5).1, j1]
        exact v.2
  intro y hy
  rcases List.mem_append.mp hy with hy | hy
  · exact old y hy
  · rw [List.mem_singleton.mp hy]
    have kc : ∀ i, 361 ≤ i → i ≤ 363 → m2 i (mw 359 6) = mk i (mw 359 6) := by
      intro i i1' i2'
      refine (x1 _ _ (fun v => by omega) (by omega) (by omega)).trans (mk_cf.2.2.1 i _ (by omega) (by omega) (by omega) (by omega))
    have ekk : m2 364 (g1.1 (n 428 15)) = mw 359 6 := by rw [t1, x2]
    show s_tn m2 (m2 364 (g1.1 (n 428 15))) ∧ m2 363 (m2 364 (g1.1 (n 428 15))) = s_hs m2 (m2 361 (m2 364 (g1.1 (n 428 15)))) (m2 362 (m2 364 (g1.1 (n 428 15)))).toNat
    rw [ekk, kc 363 (by decide) (by decide), kc 361 (by decide) (by decide), kc 362 (by decide) (by decide), k363, k361, k362]
    refine ⟨?_, ?_⟩
    · unfold s_tn
      rw [kc 361 (by decide) (by decide), kc 362 (by decide) (by decide), k361, k362, m26]
      omega
    · refine s_hs_eq _ (fun i q1 q2 => ?_)
      rw [x1 365 _ (by omega) (by omega) (by omega), mk_cf.2.2.2 _ (by omega)]
/-- both look whether the name came already -/
theorem s_dic_tw {S R0 : Int} {mw : w_M} {l1 : List Int} {R : Int → w_M → Prop} (h : s_LI g0 g m0 n0 mw n P W L q R0 7 l) (nbw : s_nb g mw l) (hP : w_isP P) (t : c_tx mw m' P l1) (hb : m_bt n l1) (hS : S = l1.length) (hS2 : S ≤ 2000) (h7 : mw 359 7 + S ≤ 108612) (hC : mw 359 6 < 16564) (hl : (l.length : Int) ≤ 20000)
    (hR1 : (∃ w ∈ l, s_kt n w) → R 1 (c_kn m' (mw 359 7) S (s_hs (c_new m' 4 (mw 359 7) S S) (mw 359 7) S.toNat))) (hR0 : (∀ w ∈ l, ¬ s_kt n w) → R 0 (c_kn m' (mw 359 7) S (s_hs (c_new m' 4 (mw 359 7) S S) (mw 359 7) S.toNat))) : xc_ps_isTwice (d + 4) P (m0 359 6) (mw 359 6) (c_new m' 4 (mw 359 7) S S) R := by
  have S0 : 0 ≤ S := by omega
  obtain ⟨i1, i2, i3, i4, i5, i6, i7, i8, i9', j1, j2, j3, j4, j5, j6, j7, j8, j9, j10, j11⟩ := h
  have ls := (i1.1.2.2.2.2 (n0 428 15) j10 i5 (by rw [i7]; exact Or.inr rfl)).1
  obtain ⟨ls1, ls2, ls3, ls4⟩ := ls
  rw [i9'] at ls1 ls2 ls3 ls4
  have mem := ls1.mem
  have dk := (ls4 i7).1
  have pair : ∀ w ∈ l, s_ky mw n (mw 364 (g.1 w)) (n 438 w) (n 439 w) ∧ 0 ≤ mw 364 (g.1 w) := fun w hw => ⟨(i1.1.2.1 w (mem w hw).1 (mem w hw).2).2.2.2.2.2.2.2.2.2.2, dk w hw⟩
  have hbd := i1.1.1
  unfold s_bd at hbd
  obtain ⟨x3, x6, _, _, x8, x9⟩ := t.sm hP
  obtain ⟨u1, u2, u3, u4, u5, u6, u7⟩ := c_new_c (m := m') (k := 4) (a := mw 359 7) (b := S) (s := S)
  rw [x8] at u1 u2 u3 u4 u5 u6
  rw [x9] at u7
  have fpm : s_fp m' (c_new m' 4 (mw 359 7) S S) P := c_new_fp hP S0
  have cfm : s_cf mw (c_new m' 4 (mw 359 7) S S) := ((t.cx.fp hP).tr fpm).cf hP
  obtain ⟨cc1, cc2⟩ := i1.1.cc ⟨j10, i5⟩ (by rw [i7]; exact Or.inr rfl)
  rw [i9', j1] at cc1 cc2
  have ndN := i1.1.2.1 (n0 428 15) j10 i5
  have c0lt : 41 ≤ m0 359 6 ∧ m0 359 6 < mw 359 6 := by rw [← j1]; exact ⟨ndN.1, ndN.2.1⟩
  have k360 : mw 360 (m0 359 6) = 7 := by rw [← j1, ndN.2.2.1]; exact i7
  have lim : c_new m' 4 (mw 359 7) S S 359 6 ≤ 16564 := by rw [u6]; omega
  have tK : s_tn (c_new m' 4 (mw 359 7) S S) (mw 359 6) := by
    unfold s_tn
    rw [u2, u3, u6]
    omega
  have lmap : ((l.map g.1).length : Int) = l.length := by rw [List.length_map]
  have nbk := nbw.cf i1.1 (fun y hy => mem y hy) cfm
  have mk_eq : w_up (c_new m' 4 (mw 359 7) S S) 363 (mw 359 6) (s_hs (c_new m' 4 (mw 359 7) S S) (mw 359 7) S.toNat) = c_kn m' (mw 359 7) S (s_hs (c_new m' 4 (mw 359 7) S S) (mw 359 7) S.toNat) := by
    unfold c_kn
    rw [x8]
  refine sp_isTwice (d := d) (la := l.map g.1) hP lim tK u1 ⟨by omega, by omega, by rw [cfm.2.2.1 360 _ (by decide) (by decide) (by omega) c0lt.2]; exact k360, by omega⟩ (by rw [cfm.2.2.1 362 _ (by decide) (by decide) (by omega) c0lt.2]; exact cc2) (by rw [cfm.2.2.1 361 _ (by decide) (by decide) (by omega) c0lt.2]; exact s_cc.fr cfm cc1) (fun y hy => ?_) (by rw [lmap]; omega) (fun r5 hr5 => ?_)
  · obtain ⟨w, hw, e⟩ := List.mem_map.mp hy
    subst e
    have nw := i1.1.2.1 w (mem w hw).1 (mem w hw).2
    obtain ⟨n1', n2'⟩ := nbk w hw
    have kl : mw 364 (g.1 w) < mw 359 6 := (nbw w hw).1.2.1
    have e364 : c_new m' 4 (mw 359 7) S S 364 (g.1 w) = mw 364 (g.1 w) := cfm.2.2.1 364 _ (by decide) (by decide) (by have := nw.1; omega) nw.2.1
    exact ⟨by have := nw.1; omega, by have := nw.2.1; omega, by have := nw.2.1; omega, n1', by rw [e364]; omega, n2'⟩
  · have same : ∀ w ∈ l, (s_eq (c_new m' 4 (mw 359 7) S S) (c_new m' 4 (mw 359 7) S S 364 (g.1 w)) (mw 359 6) ↔ s_kt n w) := by
      intro w hw
      obtain ⟨p1, p2⟩ := pair w hw
      have nw := i1.1.2.1 w (mem w hw).1 (mem w hw).2
      have e364 : c_new m' 4 (mw 359 7) S S 364 (g.1 w) = mw 364 (g.1 w) := cfm.2.2.1 364 _ (by decide) (by decide) (by have := nw.1; omega) nw.2.1
      rw [e364]
      have ky : s_ky (c_new m' 4 (mw 359 7) S S) n (mw 364 (g.1 w)) (n 438 w) (n 439 w) := p1.fr cfm s_mf.rf
      have txt := s_tx_mk i1 t hb (by omega) (by omega)
      rw [← hS] at txt
      have := s_eq_kt (K := mw 359 6) (S := S) (z := n 428 17) ky p2 u3 (fun i i0 i1 => by
        rw [u2, c_new_o (by omega) (by omega)]
        exact (txt i i0 i1).1)
      unfold s_kt
      rw [hb.1, ← hS]
      exact this
    have lmem : ∀ {p : Int → Prop}, (∃ y ∈ l.map g.1, p y) ↔ ∃ w ∈ l, p (g.1 w) := by
      intro p
      constructor
      · rintro ⟨y, hy, hp⟩
        obtain ⟨w, hw, e⟩ := List.mem_map.mp hy
        exact ⟨w, hw, by rw [e]; exact hp⟩
      · rintro ⟨w, hw, hp⟩
        exact ⟨g.1 w, List.mem_map_of_mem hw, hp⟩
    rw [u2, u3, mk_eq]
    rcases hr5 with ⟨hr5, tw⟩ | ⟨hr5, ntw⟩
    · obtain ⟨w, hw, hp⟩ := lmem.1 tw
      rw [hr5]
      exact hR1 ⟨w, hw, (same w hw).1 hp⟩
    · rw [hr5]
      exact hR0 (fun w hw v => ntw (g.1 w) (List.mem_map_of_mem hw) ((same w hw).2 v))
/-- the entry's object, and the rest -/
theorem s_dic_more {k : Nat} {K S zc zr e1 : Int} {mw mk nk : w_M} (hob : s_ob d P W L refs K k) (hD : D + 1 = 20 - (k : Int)) (hR : R = 21 - D) (hP : w_isP P)
    (h1 : s_LI g0 g m0 n0 mw n P W L q R 7 l) (nbw : s_nb g mw l) (hlast : (l = [] ∧ zr = -1 ∧ zc = -1) ∨ (zr ∈ l ∧ n 437 zr = -1 ∧ zc = g.1 zr)) (hlen : (l.length : Int) + 1 ≤ mw 359 6 - m0 359 6) (hN0 : 0 ≤ n0 428 15 ∧ n0 428 15 < 40000) (hqe : q ≤ e1) (hKe : L - e1 < K)
    (kJ : s_J g mk nk P W L e1) (k21 : nk 428 21 = e1) (kfp : s_fp mw mk P) (kfr : s_fr n nk) (mk6 : mk 359 6 = mw 359 6 + 1) (k15 : nk 428 15 = n 428 15) (kky : s_ky mk nk (mw 359 6) (n 428 17) S) (k363 : mk 363 (mw 359 6) = s_hs mk (mw 359 7) S.toNat) (k360 : mk 360 (mw 359 6) = 4) (k361 : mk 361 (mw 359 6) = mw 359 7) (k362 : mk 362 (mw 359 6) = S) (mk7 : mk 359 7 = mw 359 7 + S) (nk17 : nk 428 17 = n 428 17 + S) (nk440 : ∀ b : Int, nk 440 b = n 440 b)
    (S0 : 0 ≤ S) (hS1 : mw 359 7 + S ≤ 108612) (nmk : w_nm (w_G0 sM) nk) (mk10 : mk P 10 = refs) (e26 : n 428 26 = S) (ntw : ∀ w ∈ l, ¬ s_kt n w)
    (asmN : ∀ {Q' : Int → w_M → Prop}, xc_m_token (d + 2 * k + 14) nk (fun _ m3 => xc_m_object (d + 2 * k + 14) (D + 1) refs m3 (fun r4 m4 => xc_m_good (d + 2 * k + 14) m4 (fun r5 m5 => if r5 = 0 then (Q' (-1) m5) else (((0 : Int) ≤ r4 ∧ r4 < 40000) ∧ (((0 : Int) ≤ r4 ∧ r4 < 40000) ∧ (if zr < 0 then (((0 : Int) ≤ n0 428 15 ∧ n0 428 15 < 40000) ∧ (((0 : Int) ≤ n0 428 15 ∧ n0 428 15 < 40000) ∧ (((0 : Int) ≤ n0 428 15 ∧ n0 428 15 < 40000) ∧ (xc_m_token (d + 2 * k + 14) (w_up (w_up (w_up (w_up m5 438 r4 (n 428 17)) 439 r4 S) 436 (n0 428 15) r4) 435 (n0 428 15) (w_32 (((w_up (w_up (w_up m5 438 r4 (n 428 17)) 439 r4 S) 436 (n0 428 15) r4) 435 (n0 428 15)) + 1))) (fun _ m6 => xp_m_dict_15 (d + 2 * k + 14) (D + 1) refs (n0 428 15) r4 m6 Q'))))) else (((0 : Int) ≤ zr ∧ zr < 40000) ∧ (((0 : Int) ≤ n0 428 15 ∧ n0 428 15 < 40000) ∧ (((0 : Int) ≤ n0 428 15 ∧ n0 428 15 < 40000) ∧ (xc_m_token (d + 2 * k + 14) (w_up (w_up (w_up (w_up m5 438 r4 (n 428 17)) 439 r4 S) 437 zr r4) 435 (n0 428 15) (w_32 (((w_up (w_up (w_up m5 438 r4 (n 428 17)) 439 r4 S) 437 zr r4) 435 (n0 428 15)) + 1))) (fun _ m7 => xp_m_dict_15 (d + 2 * k + 14) (D + 1) refs (n0 428 15) r4 m7 Q'))))))))))) → xp_m_dict_15 (d + 2 * k + 14) (D + 1) refs (n0 428 15) zr n Q')
    (ih : ∀ (q2 : Int) (g2 : s_g) (m2 n2 : w_M) (zc2 zr2 : Int), e1 < q2 → s_LI g0 g2 m0 n0 m2 n2 P W L q2 R 7 (l ++ [n 428 15]) → s_nb g2 m2 (l ++ [n 428 15]) → w_nm (w_G0 sM) n2 → m2 P 10 = refs → m_tk n2 W L (k_w W (L - q2).toNat false q2) → zr2 ∈ l ++ [n 428 15] → n2 437 zr2 = -1 → zc2 = g2.1 zr2 → (l.length : Int) + 2 ≤ m2 359 6 - m0 359 6 →
      (∀ r m1 r' n1, xp_m_dict_15 (d + 2 * k + 14) (D + 1) refs (n0 428 15) zr2 n2 (w_q r' n1) → (s_B m0 n0 m1 n1 P r ∨ s_O g0 m0 n0 m1 n1 P W L p0 r r' R) → Q r m1) → xp_ps_compound_71 (d + 2 * k + 14) P D 1 (m0 359 6) zc2 ((l.length : Int) + 1) m2 Q)
    (hQ : ∀ r m1 r' n1, xp_m_dict_15 (d + 2 * k + 14) (D + 1) refs (n0 428 15) zr n (w_q r' n1) → (s_B m0 n0 m1 n1 P r ∨ s_O g0 m0 n0 m1 n1 P W L p0 r r' R) → Q r m1) :
    xc_ps_object (d + 2 * k + 14) P (D + 1) mk (fun r7 m7 => xp_ps_compound_234 (d + 2 * k + 14) P D 1 (m0 359 6) zc l.length (mw 359 6) r7 m7 Q) := by
  have hP' := w_isP_o hP
  have kbits := kJ.bits
  obtain ⟨_, hL, _, _, ke0, keL, kf2, kf7, _, kh29, _, kh31, kh31'⟩ := kbits
  obtain ⟨rt, n3, run3, nm3, ag3, tk3⟩ := r_get (sp_tok (d := d + 2 * k + 9) (Q := fun _ n' => m_ag nk n' ∧ m_tk n' W L (k_w W (L - e1).toNat false e1)) ⟨kJ.2.2.2.1, hL, k21, ke0, keL⟩ kf2 kf7 rfl (fun n' y1 y2 => ⟨y1, y2⟩)) nmk r_ns1
  have J3 := kJ.ag ag3
  have n315 : n3 428 15 = n 428 15 := (ag3 _ _ (by omega) (by omega)).trans k15
  refine hob (D + 1) e1 g mk n3 _ hKe hD J3 nm3 mk10 tk3 (fun r m1 r' n1 runo post => ?_)
  obtain ⟨nm1, post⟩ := post
  have asm : ∀ {Q' : Int → w_M → Prop}, (n1 428 27 ≠ 0 → Q' (-1) n1) → (n1 428 27 = 0 → (0 ≤ r' ∧ r' < 40000) ∧ (if zr < 0 then xc_m_token (d + 2 * k + 14) (w_up (w_up (w_up (w_up n1 438 r' (n 428 17)) 439 r' S) 436 (n0 428 15) r') 435 (n0 428 15) (w_32 ((w_up (w_up (w_up n1 438 r' (n 428 17)) 439 r' S) 436 (n0 428 15) r') 435 (n0 428 15) + 1))) (fun _ m4 => xp_m_dict_15 (d + 2 * k + 14) (D + 1) refs (n0 428 15) r' m4 Q') else ((0 ≤ zr ∧ zr < 40000) ∧ xc_m_token (d + 2 * k + 14) (w_up (w_up (w_up (w_up n1 438 r' (n 428 17)) 439 r' S) 437 zr r') 435 (n0 428 15) (w_32 ((w_up (w_up (w_up n1 438 r' (n 428 17)) 439 r' S) 437 zr r') 435 (n0 428 15) + 1))) (fun _ m4 => xp_m_dict_15 (d + 2 * k + 14) (D + 1) refs (n0 428 15) r' m4 Q')))) → xp_m_dict_15 (d + 2 * k + 14) (D + 1) refs (n0 428 15) zr n Q' := by
    intro Q' v1 v2
    refine asmN ?_
    refine w_C.to run3 ?_
    refine w_C.to runo ?_
    by_cases v : n1 428 27 = 0
    · obtain ⟨x1, x2⟩ := v2 v
      refine r_good v ?_
      rw [if_neg (by decide)]
      refine ⟨x1, x1, ?_⟩
      by_cases v3 : zr < 0
      · rw [if_pos v3] at x2 ⊢
        exact ⟨hN0, hN0, hN0, x2⟩
      · rw [if_neg v3] at x2 ⊢
        exact ⟨x2.1, hN0, hN0, x2.2⟩
    · refine r_good0 v ?_
      rw [if_pos rfl]
      exact v1 v
  rcases post with ⟨o1, o2, o3, o4, o5, o6⟩ | ⟨g1, e2, o1, o2, o3, o4, o5, o6, o7, o8, o9⟩
  · subst o1
    apply xr_ps_compound_234 hP
    rw [if_pos (by decide)]
    refine hQ _ _ (-1) n1 (asm (fun _ => ⟨rfl, rfl⟩) (fun v => absurd (o3.trans v) o2)) (Or.inl ⟨rfl, o2, o3, o4, ?_, ?_⟩)
    · exact h1.2.2.1.tr (kfp.tr o5)
    · exact h1.2.2.2.1.tr (kfr.tr (ag3.fr.tr o6))
  · obtain ⟨t1, t2, t3, t4, t5, t6, t7, t8, t9⟩ := o9
    rw [n315] at t1 t2 t3 t4 t6 t7 t9 o2 o6
    subst o1 o2
    have bits1 := o5.bits
    obtain ⟨_, _, _, _, e0, eL, f2', f7', h15', h29', _, h31a, h31b⟩ := bits1
    have good1 := o5.2.2.2.2.2.2.1
    have frk : s_fr nk n1 := ag3.fr.tr o8
    have jw := h1.1
    have ls := (jw.1.2.2.2.2 (n0 428 15) hN0.1 h1.2.2.2.2.1 (by rw [h1.2.2.2.2.2.2.1]; exact Or.inr rfl)).1
    obtain ⟨ls1, ls2, ls3, ls4⟩ := ls
    rw [h1.2.2.2.2.2.2.2.2.1] at ls1 ls2
    have mem := ls1.mem
    have zcr : zc < 0 ∨ (0 ≤ zc ∧ zc < mw 359 6) := by
      rcases hlast with v | v
      · left; rw [v.2.2]; decide
      · right
        have nz := jw.1.2.1 zr (mem zr v.1).1 (mem zr v.1).2
        rw [v.2.2]
        exact ⟨Int.le_trans (by decide) nz.1, nz.2.1⟩
    have hbw := jw.1.1
    have hbk := kJ.1.1
    unfold s_bd at hbw hbk
    have c0lt := h1.2.2.2.2.2.1
    have c0g : 0 ≤ m0 359 6 := by
      have := (jw.1.2.1 (n0 428 15) hN0.1 h1.2.2.2.2.1).1
      rw [h1.2.2.2.2.2.2.2.2.2.1] at this
      omega
    have lim1 : m1 359 6 ≤ 16564 := o5.1.1.2.2.2.1
    refine sp_comp_234 (d := d + 2 * k + 12) hP lim1 ⟨by omega, t8⟩ ⟨c0g, by omega⟩ (zcr.elim Or.inl (fun v => Or.inr ⟨v.1, by omega⟩)) ⟨by omega, by omega⟩ (fun m2 x1 x2 x3 x4 x5 => ?_)
    obtain ⟨n2, hn2⟩ : ∃ n2, n2 = (if zr < 0 then w_up (w_up (w_up (w_up n1 438 (n 428 15) (n 428 17)) 439 (n 428 15) S) 436 (n0 428 15) (n 428 15)) 435 (n0 428 15) ((l.length : Int) + 1) else w_up (w_up (w_up (w_up n1 438 (n 428 15) (n 428 17)) 439 (n 428 15) S) 437 zr (n 428 15)) 435 (n0 428 15) ((l.length : Int) + 1)) := ⟨_, rfl⟩
    obtain ⟨st, st7, e428⟩ := s_dstep h1 hlast (by omega) hP kfp kfr mk6 k15 kky k360 nk440 nk17 e26 ntw o5 o6 o7 frk t1 (by rw [t2]; omega) (by omega) t3 t4 t6 t7 t8 t9 x1 x2 x3 x4 x5 hn2
    have nb2 := s_dnb h1 hlast hP nbw kfp mk6 kJ.1 k15 k361 k362 k363 mk7 S0 hS1 o5 o6 o7 t1 t7 t8 x1 x2
    have hN1 : 0 ≤ n 428 15 ∧ n 428 15 < 40000 := by omega
    have mz : ¬ zr < 0 → 0 ≤ zr ∧ zr < 40000 := by
      intro v
      rcases hlast with y | y
      · rw [y.2.1] at v; exact absurd (by decide) v
      · have := mem zr y.1; omega
    have l31 : -2147483648 ≤ (l.length : Int) + 1 ∧ (l.length : Int) + 1 < 2147483648 := by omega
    have nm1n : w_nm (w_G0 sM) (w_up (w_up n1 438 (n 428 15) (n 428 17)) 439 (n 428 15) S) :=
      r_nm_int (r_nm_int nm1 (by decide) (by show 428 ≤ 438; decide) hN1 (by omega)) (by decide) (by show 428 ≤ 439; decide) hN1 (by omega)
    have nm2 : w_nm (w_G0 sM) n2 := by
      rw [hn2]
      split
      · exact r_nm_int (r_nm_int nm1n (by decide) (by show 428 ≤ 436; decide) hN0 (by omega)) (by decide) (by show 428 ≤ 435; decide) hN0 l31
      · rename_i v
        exact r_nm_int (r_nm_int nm1n (by decide) (by show 428 ≤ 437; decide) (mz v) (by omega)) (by decide) (by show 428 ≤ 435; decide) hN0 l31
    have mst : m_st n2 W L e2 := ⟨st.1.2.2.2.1, hL, by rw [e428]; exact o4, e0, eL⟩
    obtain ⟨rt2, n4, run4, nm4, ag4, tk4⟩ := r_get (sp_tok (d := d + 2 * k + 9) (Q := fun _ n' => m_ag n2 n' ∧ m_tk n' W L (k_w W (L - e2).toNat false e2)) mst (by rw [e428]; exact f2') (by rw [e428]; exact f7') rfl (fun n' y1 y2 => ⟨y1, y2⟩)) nm2 r_ns1
    have st4 := st.ag ag4
    have m210 : m2 P 10 = refs := by
      rw [x1 _ _ (by omega) (by omega) (by omega), o7.2.2 _ _ (by omega) (by omega) (by omega) (by omega)]
      exact mk10
    have m26 : m2 359 6 = m1 359 6 := x1 _ _ (fun z => absurd z.1 (by decide)) (fun z => z.1.elim (by decide) (by decide)) (fun z => absurd z.1 (by decide))
    have n435n : w_up (w_up n1 438 (n 428 15) (n 428 17)) 439 (n 428 15) S 435 (n0 428 15) = l.length := by
      rw [w_up_ne (by decide), w_up_ne (by decide), (kfr.tr frk).mf.2.2.1 435 _ (by decide) (by decide) hN0.1 h1.2.2.2.2.1]
      exact ls2
    refine ih e2 _ m2 n4 (mk 359 6) (n 428 15) o3 st4 nb2 nm4 m210 tk4 (List.mem_append_right _ (List.mem_singleton.mpr rfl)) ?_ t1.symm (by rw [m26]; omega) (fun r m4 r4 n5 y1 y2 => ?_)
    · rw [ag4 _ _ (fun z => absurd z.1 (by decide)) (fun z => absurd z.1 (by decide))]; exact st7
    · refine hQ r m4 r4 n5 (asm (fun v => absurd good1 v) (fun _ => ⟨hN1, ?_⟩)) y2
      by_cases v : zr < 0
      · rw [if_pos v] at hn2 ⊢
        rw [w_up_ne (by decide), n435n, w_32_id l31.1 l31.2, ← hn2]
        exact w_C.to run4 y1
      · rw [if_neg v] at hn2 ⊢
        rw [w_up_ne (by decide), n435n, w_32_id l31.1 l31.2, ← hn2]
        exact ⟨mz v, w_C.to run4 y1⟩
end DM
