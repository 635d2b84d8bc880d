/-! ===== sections: entries of a row stream, the reference ===== -/
theorem t_W : t_s 164 (s_wd 30) := ⟨by decide, by decide, by decide, _, rfl⟩
theorem t_index : t_s 196 (s_wd 31) := ⟨by decide, by decide, by decide, _, rfl⟩
theorem t_size : t_s 198 (s_wd 32) := ⟨by decide, by decide, by decide, _, rfl⟩
/-- the widths are right -/
def e_ww (g : s_g) (n : w_M) (b : Int) : Prop := 0 ≤ s_fd n (s_wd 30) (g.2.1 b) ∧ n 432 (s_fd n (s_wd 30) (g.2.1 b)) = 6 ∧ e_wd n (g.2.1 (s_fd n (s_wd 30) (g.2.1 b)))
noncomputable def e_wv (g : s_g) (n : w_M) (b : Int) (t : Nat) : Int := n 433 ((g.2.1 (s_fd n (s_wd 30) (g.2.1 b))).getD t 0)
/-- without Index the reference asks for a Size of 1 or more here -/
def e_pv1 (g : s_g) (n : w_M) (b : Int) : Prop := e_pv g n b ∧ (s_fd n (s_wd 31) (g.2.1 b) < 0 → 1 ≤ z_wh g n b 32 (-1))
section EA
variable {d : Nat} {g : s_g} {m m' m2 n n' n2 : w_M} {Q : Int → w_M → Prop} {W : Int → Int} {L p p' q f a b R w w0 w1 w2 x y i ww ix : Int} {k : Nat} {o : List Int} {l : List Int}
theorem e_67fd (hf : ∀ i j : Int, i ≠ 467 → n' i j = n i j) : ∀ L : List Int, s_fd n' l L = s_fd n l L := by
  intro L
  induction L with
  | nil => rfl
  | cons y L ih =>
    have e : s_is n' (n' 438 y) (n' 439 y) l ↔ s_is n (n 438 y) (n 439 y) l := by
      unfold s_is
      rw [hf 438 y (by decide), hf 439 y (by decide)]
      simp only [fun b => hf 440 b (by decide)]
    by_cases z : s_is n (n 438 y) (n 439 y) l
    · rw [s_fd_y z, s_fd_y (e.mpr z)]
    · rw [s_fd_n z, s_fd_n (fun w => z (e.mp w)), ih]
theorem e_67z (hf : ∀ i j : Int, i ≠ 467 → n' i j = n i j) {k w : Int} : z_wh g n' q k w = z_wh g n q k w := by
  unfold z_wh
  rw [e_67fd hf, hf 432 _ (by decide), hf 433 _ (by decide)]
theorem e_67st (hf : ∀ i j : Int, i ≠ 467 → n' i j = n i j) (h : s_st g m n) : s_st g m n' := by
  have e1 := hf 428 15 (by decide)
  have e2 := hf 428 17 (by decide)
  refine h.fr s_cf.rf ⟨by omega, by omega, fun a b q1 q2 _ _ => hf a b (by omega), fun b _ => hf 440 b (by decide)⟩ e1 ?_
  have := h.1
  unfold s_bd at this ⊢
  rw [e1, e2]
  exact this
theorem e_67mh (hf : ∀ i j : Int, i ≠ 467 → n' i j = n i j) : e_mh n n' := fun i j q1 q2 => hf i j (by omega)
theorem r_entries1 (hst : s_st g m n) (hb : 0 ≤ b ∧ b < n 428 15) (h7 : n 432 b = 7) (hT : 0 ≤ n 428 34 ∧ n 428 34 ≤ 49000) (ho : (o.length : Int) ≤ 8000) (hat : ∀ j : Nat, j < o.length → n 441 (n 428 34 + j) = o.getD j 0) (h27 : n 428 27 = 0)
    (H1 : ∀ es, e_ww g n b → e_pv1 g n b → e_pairs o (e_wv g n b 0) (e_wv g n b 1) (e_wv g n b 2) (e_pp g n b) 0 = some (es, (o.length : Int)) → ∀ n', e_mh n n' → n' 428 27 = 0 → e_rT n' = es.foldl e_rt (e_rT n) → Q 0 n')
    (H0 : ¬ (e_ww g n b ∧ e_pv1 g n b ∧ ∃ es, e_pairs o (e_wv g n b 0) (e_wv g n b 1) (e_wv g n b 2) (e_pp g n b) 0 = some (es, (o.length : Int))) → ∀ n', e_mh n n' → n' 428 27 ≠ 0 → Q 0 n') : xc_m_entries1 (d + 9) b o.length ww n Q := by
  refine w_C.nm (fun hn => ?_)
  have nn : ∀ j, -2147483648 ≤ n 433 j ∧ n 433 j < 2147483648 := fun j => w_ar_r hn (a := 433) (by decide) s_433 j
  have bd := hst.1
  unfold s_bd at bd
  have now := hst.fd (l := s_wd 30) hb h7
  have noi := hst.fd (l := s_wd 31) hb h7
  obtain ⟨wn, hwn⟩ : ∃ wn, wn = s_fd n (s_wd 30) (g.2.1 b) := ⟨_, rfl⟩
  obtain ⟨ix, hix⟩ : ∃ ix, ix = s_fd n (s_wd 31) (g.2.1 b) := ⟨_, rfl⟩
  have eww : e_ww g n b ↔ (0 ≤ wn ∧ n 432 wn = 6 ∧ e_wd n (g.2.1 wn)) := by rw [hwn]; exact Iff.rfl
  have ewv : ∀ t, e_wv g n b t = n 433 ((g.2.1 wn).getD t 0) := fun t => by rw [hwn]; rfl
  -- a fault
  have bad : ∀ n1 : w_M, (∀ i j : Int, i ≠ 467 → n1 i j = n i j) → ¬ (e_ww g n b ∧ e_pv1 g n b ∧ ∃ es, e_pairs o (e_wv g n b 0) (e_wv g n b 1) (e_wv g n b 2) (e_pp g n b) 0 = some (es, (o.length : Int))) → Q 0 (m_fl n1 3 ww) := by
    intro n1 f1 z
    exact H0 z _ ((e_67mh f1).tr m_fl_emh) (m_fl_ne (by rw [f1 _ _ (by decide)]; exact h27) (by decide))
  have bad242 : ∀ (n1 : w_M), Q 0 (m_fl n1 3 ww) → ∀ x8 x9 : Int, xp_m_entries1_242 (d + 8) b o.length ww ix 0 x8 x9 n1 Q := by
    intro n1 z x8 x9
    apply xr_m_entries1_242
    refine z_ite (fun _ => ?_) (fun _ => ?_)
    · rw [if_pos rfl]
      refine sp_m_fail ?_
      exact z
    · rw [if_pos rfl, if_pos rfl]
      refine sp_m_fail ?_
      exact z
  have bad213 : ∀ (n1 : w_M), Q 0 (m_fl n1 3 ww) → xp_m_entries1_213 (d + 8) b o.length ww ix 0 n1 Q := by
    intro n1 z
    apply xr_m_entries1_213
    rw [if_pos rfl]
    exact bad242 n1 z _ _
  have bad158 : ∀ (n1 : w_M), Q 0 (m_fl n1 3 ww) → xp_m_entries1_158 (d + 8) b o.length ww ix 0 n1 Q := by
    intro n1 z
    apply xr_m_entries1_158
    rw [if_pos rfl]
    exact bad213 n1 z
  have bad81 : ∀ (n1 : w_M), Q 0 (m_fl n1 3 ww) → xp_m_entries1_81 (d + 8) b o.length ww ix 0 (-1) 0 n1 Q := by
    intro n1 z
    apply xr_m_entries1_81
    rw [if_pos (by decide), if_pos rfl]
    exact bad158 n1 z
  -- the widths are right
  have good158 : e_ww g n b → ∀ n1 : w_M, (∀ i j : Int, i ≠ 467 → n1 i j = n i j) → (∀ t : Nat, t < 3 → n1 467 t = e_wv g n b t) → xp_m_entries1_158 (d + 8) b o.length ww ix 1 n1 Q := by
    intro hww n1 f1 v1
    obtain ⟨g1, g2, g3, g4⟩ := eww.mp hww
    have mem : ∀ t : Nat, t < 3 → 0 ≤ e_wv g n b t ∧ e_wv g n b t ≤ 4 := by
      intro t ht
      rw [ewv]
      have : (g.2.1 wn).getD t 0 ∈ g.2.1 wn := by
        rw [List.getD_eq_getElem?_getD, List.getElem?_eq_getElem (by omega)]
        exact List.getElem_mem _
      have := g4 _ this
      omega
    have M1 : e_M n1 o (e_wv g n b 0) (e_wv g n b 1) (e_wv g n b 2) := by
      refine ⟨by rw [f1 _ _ (by decide)]; exact hT, ho, fun j hj => ?_, v1 0 (by decide), v1 1 (by decide), v1 2 (by decide), mem 0 (by decide), mem 1 (by decide), mem 2 (by decide)⟩
      rw [f1 _ _ (by decide), f1 _ _ (by decide)]
      exact hat j hj
    have n27 : n1 428 27 = 0 := by rw [f1 _ _ (by decide)]; exact h27
    have st1 := e_67st f1 hst
    have mh1 := e_67mh f1
    have T1 : e_rT n1 = e_rT n := by
      unfold e_rT
      rw [f1 428 75 (by decide), funext (fun x => f1 464 x (by decide)), funext (fun x => f1 465 x (by decide)), funext (fun x => f1 466 x (by decide))]
    obtain ⟨S, hS⟩ : ∃ S, S = z_wh g n b 32 (-1) := ⟨_, rfl⟩
    have wh1 : ∀ (R : Int → w_M → Prop), R S n1 → xc_m_wholeAt (d + 8) b 198 (-1) n1 R := by
      intro R hR
      refine r_wholeAt (d := d) st1 t_size (by rw [f1 _ _ (by decide)]; exact hb) (by rw [f1 _ _ (by decide)]; exact h7) ?_
      rw [e_67z f1, ← hS]
      exact hR
    have epp : ix < 0 → e_pp g n b = [(0, S)] := fun z => by
      unfold e_pp
      rw [← hix, if_pos z, ← hS]
    have epp2 : ¬ ix < 0 → e_pp g n b = e_pl n (g.2.1 ix) := fun z => by
      unfold e_pp
      rw [← hix, if_neg z]
    have epv : e_pv1 g n b ↔ ((ix < 0 ∧ 1 ≤ S) ∨ (0 ≤ ix ∧ n 432 ix = 6 ∧ e_ix n (g.2.1 ix))) := by
      unfold e_pv1 e_pv
      rw [← hix, ← hS]
      constructor
      · intro ⟨z1, z2⟩
        rcases z1 with z | z
        · exact Or.inl ⟨z.1, z2 z.1⟩
        · exact Or.inr z
      · intro z
        rcases z with z | z
        · exact ⟨Or.inl ⟨z.1, by omega⟩, fun _ => z.2⟩
        · exact ⟨Or.inr z, fun w => by omega⟩
    have nopv : ¬ e_pv1 g n b → Q 0 (m_fl n1 3 ww) := fun z => bad n1 f1 (fun w => z w.2.1)
    apply xr_m_entries1_158
    rw [if_neg (by decide)]
    by_cases q : ix < 0
    · rw [if_pos q]
      refine wh1 _ ?_
      by_cases q1 : S < 1
      · rw [if_pos q1]
        exact bad213 n1 (nopv (fun w => by rw [epv] at w; omega))
      · rw [if_neg q1]
        have pv : e_pv1 g n b := epv.mpr (Or.inl ⟨q, by omega⟩)
        have ep : e_pairs o (e_wv g n b 0) (e_wv g n b 1) (e_wv g n b 2) (e_pp g n b) 0 = if 200 < 0 + S then none else (e_prs o (e_wv g n b 0) (e_wv g n b 1) (e_wv g n b 2) S.toNat 0 0).bind (fun x => (some (([] : List e_E), x.2)).map (fun y => (x.1 ++ y.1, y.2))) := by
          rw [epp q]
          rfl
        have rS : S ≤ 2147483647 := by
          rw [hS]
          unfold z_wh
          by_cases z1 : s_fd n (s_wd 32) (g.2.1 b) < 0
          · rw [if_pos z1]; decide
          · rw [if_neg z1]
            by_cases z2 : n 432 (s_fd n (s_wd 32) (g.2.1 b)) = 2
            · rw [if_pos z2]
              have := nn (s_fd n (s_wd 32) (g.2.1 b))
              omega
            · rw [if_neg z2]; decide
        apply xr_m_entries1_213
        rw [if_neg (by decide), if_pos q]
        apply xr_m_entries1_242
        rw [if_pos (by decide), if_neg (by decide), if_pos q]
        apply xr_m_entries1_319
        refine r_gd ?_
        rw [if_pos n27, if_neg (by decide), if_neg (by decide)]
        apply xr_m_entries1_336
        rw [if_neg (by decide), if_neg (by decide)]
        refine wh1 _ ?_
        apply xr_m_entries1_386
        rw [if_neg (by decide), w_64_id (x := 0 + S) (by omega) (by omega)]
        by_cases q2 : 200 < 0 + S
        · rw [if_pos q2] at ep ⊢
          refine sp_m_fail ?_
          refine H0 (fun y => ?_) _ (mh1.tr m_fl_emh) (m_fl_ne n27 (by decide))
          obtain ⟨_, _, es, y⟩ := y
          rw [ep] at y
          cases y
        · rw [if_neg q2] at ep ⊢
          have z0 : (0 : Int) ≤ (o.length : Int) := by omega
          refine r_pair_436 (d := d + 6) S.toNat 0 0 n1 0 S (by decide) (by omega) (by decide) (by omega) M1 n27 (by decide) z0 (fun es e z n2 c2 g27 g67 le1 le2 T2 => ?_) (fun z n2 c2 g27 => ?_)
          · have z : e_prs o (e_wv g n b 0) (e_wv g n b 1) (e_wv g n b 2) S.toNat 0 0 = some (es, e) := z
            rw [z] at ep
            refine r_319_end (d := d + 6) g27 rfl (by decide) (fun q3 => ?_) (fun q3 => ?_)
            · refine H1 es hww pv ?_ n2 (mh1.tr c2) g27 (by rw [T2, T1])
              rw [ep, ← q3]
              show some (es ++ [], e) = _
              rw [List.append_nil]
            · refine H0 (fun y => ?_) _ ((mh1.tr c2).tr m_fl_emh) (m_fl_ne g27 (by decide))
              obtain ⟨_, _, es2, y⟩ := y
              rw [ep] at y
              exact q3 (Prod.mk.inj (Option.some.inj y)).2
          · have z : e_prs o (e_wv g n b 0) (e_wv g n b 1) (e_wv g n b 2) S.toNat 0 0 = none := z
            rw [z] at ep
            refine H0 (fun y => ?_) n2 (mh1.tr c2) g27
            obtain ⟨_, _, es2, y⟩ := y
            rw [ep] at y
            cases y
    · rw [if_neg q]
      have ir : 0 ≤ ix ∧ ix < n 428 15 := by
        rw [← hix] at noi
        rcases noi with w | w <;> omega
      refine ⟨by omega, ?_⟩
      rw [f1 432 ix (by decide), f1 435 ix (by decide)]
      by_cases q6 : n 432 ix = 6
      · rw [if_pos q6]
        refine ⟨by omega, ?_⟩
        have lsx := (hst.2.2.2.2 ix ir.1 ir.2 (Or.inl q6)).1
        rw [lsx.2.1, Int.tmod_eq_emod_of_nonneg (by omega)]
        by_cases qe : ((g.2.1 ix).length : Int) % 2 = 0
        · rw [if_pos qe]
          apply xr_m_entries1_213
          rw [if_neg (by decide), if_neg q, f1 436 ix (by decide)]
          refine ⟨by omega, ?_⟩
          refine r_242 (d := d + 6) hst ir.1 (g.2.1 ix) _ n1 f1 lsx.1 (fun z => ?_) (fun z => nopv (fun w => ?_))
          · have pix : e_ix n (g.2.1 ix) := ⟨by omega, z⟩
            have pv : e_pv1 g n b := epv.mpr (Or.inr ⟨ir.1, q6, pix⟩)
            have hl : ∀ y, y ∈ g.2.1 ix → n 432 y = 2 ∧ 0 ≤ n 433 y ∧ n 433 y ≤ 2147483647 := fun y hy => by
              have t := z y hy
              have := nn y
              omega
            refine r_pairs_319 (d := d + 6) (l := g.2.1 ix) hst hl ((g.2.1 ix).length / 2) (g.2.1 ix) _ 0 n1 (by omega) (fun z hz => hz) lsx.1 mh1 M1 n27 (by decide) (by omega) (fun es e y el n2 c2 g27 T2 => ?_) (fun y n2 c2 g27 => ?_)
            · rw [el] at y
              exact H1 es hww pv (by rw [epp2 q]; exact y) n2 c2 g27 (by rw [T2, T1])
            · refine H0 (fun v => ?_) n2 c2 g27
              obtain ⟨_, _, es2, v⟩ := v
              rw [epp2 q] at v
              exact y es2 _ v rfl
          · rw [epv] at w
            rcases w with w | w
            · omega
            · exact z w.2.2.2
        · rw [if_neg qe]
          exact bad213 n1 (nopv (fun w => by
            rw [epv] at w
            rcases w with w | w
            · omega
            · have := w.2.2.1
              omega))
      · rw [if_neg q6]
        exact bad213 n1 (nopv (fun w => by rw [epv] at w; omega))
  apply xr_m_entries1
  refine r_rawEntry (d := d + 2) hst t_W hb h7 ?_
  refine r_rawEntry (d := d + 2) hst t_index hb h7 ?_
  rw [← hwn, ← hix]
  have rf : ∀ i j : Int, i ≠ 467 → n i j = n i j := fun _ _ _ => rfl
  have now : ¬ e_ww g n b → Q 0 (m_fl n 3 ww) := fun z => bad n rf (fun w => z w.1)
  by_cases q : wn < 0
  · rw [if_pos q]
    exact bad81 n (now (fun w => by rw [eww] at w; omega))
  · rw [if_neg q]
    have wr : 0 ≤ wn ∧ wn < n 428 15 := by
      have := hst.fd (l := s_wd 30) hb h7
      rw [← hwn] at this
      rcases this with w | w <;> omega
    refine ⟨by omega, ?_⟩
    by_cases q6 : n 432 wn = 6
    · rw [if_pos q6]
      have lsx := (hst.2.2.2.2 wn wr.1 wr.2 (Or.inl q6)).1
      refine ⟨by omega, ?_⟩
      rw [lsx.2.1]
      by_cases q3 : ((g.2.1 wn).length : Int) = 3
      · rw [if_pos q3]
        refine ⟨by omega, ?_⟩
        refine r_81 (d := d + 8) hst (E := g.2.1 wn) (by omega) (fun z n1 f1 v1 => good158 (eww.mpr ⟨wr.1, q6, z⟩) n1 f1 (fun t ht => by rw [ewv]; exact v1 t ht)) (fun z n1 f1 => bad158 n1 (bad n1 f1 (fun w => z (eww.mp w.1).2.2))) (g.2.1 wn) [] _ n rfl lsx.1 rf (fun t ht => absurd ht (Nat.not_lt_zero t)) (fun z hz => by cases hz)
      · rw [if_neg q3]
        exact bad81 n (now (fun w => by
          rw [eww] at w
          have := w.2.2.1
          omega))
    · rw [if_neg q6]
      exact bad81 n (now (fun w => by rw [eww] at w; exact q6 w.2.1))
end EA
