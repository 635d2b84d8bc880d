/-! ===== the painter: a string is shown, both sides ===== -/
section PS2
variable {d e : Nat} {m m' m0 m1 m2 n n' n0 n1 n2 : w_M} {Q : Int → w_M → Prop} {a b v w k s i j K A : Int}
theorem p_S.let (h : p_S m n a s) : f_st_letters m a = n 435 s := by
  obtain ⟨h1, h2, h3, h4, h5, h6, h7, h8⟩ := h
  unfold f_st_letters
  rw [if_neg (by omega), if_pos h1.2, if_pos (by omega), if_neg (by omega), if_pos h4, h5]
theorem p_S.at (h : p_S m n a s) (h0 : 0 ≤ i) (h1 : i < n 435 s) : f_st_letterOf m a i = n 440 (n 436 s + i) % 256 := by
  obtain ⟨h1', h2, h3, h4, h5, h6, h7, h8⟩ := h
  rw [a_tx h1' h2 h3 (Or.inr h4) h5 h6, if_neg (by omega), if_pos h1]
theorem p_th_b (h : -4611686018427387904 ≤ v ∧ v ≤ 4611686018427387904) : -70400000000 ≤ p_th v ∧ p_th v ≤ 70400000000 := by
  unfold p_th
  omega
theorem s_shows22 : ∀ (K : Nat) (i : Int) (m n : w_M), i + K = n 435 s → 0 ≤ i → p_S m n a s → p_Z m n → n 428 27 = 0 → n 428 106 = A → xp_m_shows_22 (e + 9) s i n (fun _ n1 => ∃ r m1, (∀ X : Int → w_M → Prop, X r m1 → xp_pa_showString_2 (d + 3) a i m X) ∧ p_sf m m1 ∧ p_sn n n1 ∧
    ((r = 0 ∧ n1 428 27 = 0 ∧ p_Z m1 n1) ∨ (r ≠ 0 ∧ n1 428 27 = r ∧ n1 428 28 = A))) := by
  intro K
  induction K with
  | zero =>
    intro i m n hi i0 hS hZ h27 hA
    apply xr_m_shows_22
    rw [if_neg (by omega)]
    refine ⟨hS.2.2.2.2.2.2.1, 0, m, fun X hX => ?_, fun _ _ _ _ _ => rfl, fun _ _ _ _ _ => rfl, Or.inl ⟨rfl, h27, hZ⟩⟩
    apply xr_pa_showString_2
    refine sp_st_letters (d := d + 2) ?_
    rw [hS.let, if_neg (by omega)]
    exact hX
  | succ K ih =>
    intro i m n hi i0 hS hZ h27 hA
    have hlt : i < n 435 s := by omega
    obtain ⟨zM, ⟨zg, zg2, zg3⟩, z7, ⟨z8, z8'⟩, ⟨z9, z9'⟩, ⟨z10, z10'⟩, zW⟩ := id hZ
    obtain ⟨h1, h2, h3, h4, h5, ⟨t1, t2, t3, t4, t5, t6⟩, h7, h8⟩ := id hS
    have bd17 : 0 ≤ n 436 s + i ∧ n 436 s + i < 150000 := by
      rcases t5 with z | z <;> omega
    obtain ⟨c, hc⟩ : ∃ c, c = n 440 (n 436 s + i) % 256 := ⟨_, rfl⟩
    have cr : 0 ≤ c ∧ c < 256 := by omega
    have eF : w_32 (n 436 s + i) = n 436 s + i := w_32_id (by omega) (by omega)
    have e1 : w_32 (i + 1) = i + 1 := w_32_id (by omega) (by omega)
    have good1 : ∀ x : w_M, x 428 27 = 0 → f_m_good x = 1 := fun x e => if_pos e
    have n10 : ¬ (1 : Int) = 0 := by decide
    -- the class up to the glyph's place
    have runA : ∀ X : Int → w_M → Prop, (if m 404 18 < 1500 then xc_pa_multiply (d + 3) 410 408 413 m (fun r3 m3 => if r3 = 0 then (X 14 m3) else (xc_pa_keepGlyph (d + 3) c m3 (fun r4 m4 => ((0 : Int) ≤ c ∧ c < 256) ∧ (xc_pa_scaled (d + 3) (m4 414 c) m4 (fun r5 m5 => if c = 32 then (xc_pa_advance (d + 3) (w_64 ((w_64 (r5 + (m5 408 9))) + (m5 408 10))) m5 (fun r6 m6 => if r6 = 0 then (X 14 m6) else (xp_pa_showString_2 (d + 3) a (w_32 (i + 1)) m6 X))) else (xc_pa_advance (d + 3) (w_64 ((w_64 (r5 + (m5 408 9))) + 0)) m5 (fun r7 m7 => if r7 = 0 then (X 14 m7) else (xp_pa_showString_2 (d + 3) a (w_32 (i + 1)) m7 X)))))))) else X 5 m) → xp_pa_showString_2 (d + 3) a i m X := fun X hX => by
      apply xr_pa_showString_2
      refine sp_st_letters (d := d + 2) ?_
      rw [hS.let, if_pos hlt]
      refine sp_st_letterOf (d := d + 1) ?_
      rw [hS.at i0 hlt, ← hc]
      by_cases q : m 404 18 < 1500
      · rw [if_pos q] at hX ⊢
        rw [if_neg (by omega), if_pos cr.2]
        exact hX
      · rw [if_neg q] at hX ⊢
        exact hX
    apply xr_m_shows_22
    rw [if_pos hlt]
    refine ⟨h7, ?_⟩
    refine sp_m_good (d := e + 8) ?_
    rw [good1 n h27, if_neg n10, eF, ← hc]
    refine ⟨h7, bd17, ?_⟩
    by_cases q15 : n 428 104 = 1500
    · rw [if_pos q15]
      refine sp_m_fail (d := e + 8) ?_
      refine ⟨5, m, fun X hX => runA X (by rw [if_neg (by omega)]; exact hX), fun _ _ _ _ _ => rfl, fun i j w1 w2 w3 => m_fl_o (by omega), Or.inr ⟨by decide, ?_, ?_⟩⟩
      · unfold m_fl
        rw [if_pos h27, w_up_nb (by decide), w_up_eq]
      · unfold m_fl
        rw [if_pos h27, w_up_eq]
        exact hA
    · rw [if_neg q15]
      have gl : n 428 104 < 1500 := by omega
      refine w_C.more (s_shown (d := d + 1) (e := e + 6) zM h27) (fun _ n3 h3 => ?_)
      obtain ⟨r3, m3, run3, cf3, nf3, fin3⟩ := h3
      have sf3 : p_sf m m3 := fun i j w1 w2 w3 => cf3 i j (by omega)
      have sn3 : p_sn n n3 := fun i j w1 w2 w3 => nf3 i j (by omega) (by omega)
      rcases fin3 with ⟨u1, u2, u3, u4⟩ | ⟨u1, u2, u3⟩
      · refine sp_m_good (d := e + 8) ?_
        rw [good1 n3 u2, if_neg n10]
        have g3 : n3 428 104 = n 428 104 := nf3 _ _ (by decide) (by decide)
        have k0 : w_32 (5 * n3 428 104) = 5 * n3 428 104 := w_32_id (by omega) (by omega)
        rw [k0, w_32_id (x := 5 * n3 428 104 + 1) (by omega) (by omega), w_32_id (x := 5 * n3 428 104 + 2) (by omega) (by omega), w_32_id (x := 5 * n3 428 104 + 3) (by omega) (by omega), w_32_id (x := 5 * n3 428 104 + 4) (by omega) (by omega), w_32_id (x := n3 428 104 + 1) (by omega) (by omega)]
        simp only [w_up_ne (show (477 : Int) ≠ 481 by decide), w_up_ne (show (479 : Int) ≠ 481 by decide)]
        refine ⟨by omega, by omega, by omega, by omega, by omega, ?_⟩
        obtain ⟨nB, hnB⟩ : ∃ nB, nB = w_up (p_row n3 481 (5 * n3 428 104) c (n3 477 4) (n3 477 5) (n3 479 5) (n3 479 1)) 428 104 (n3 428 104 + 1) := ⟨_, rfl⟩
        show xc_m_widthOf (e + 9) c (w_up (p_row n3 481 (5 * n3 428 104) c (n3 477 4) (n3 477 5) (n3 479 5) (n3 479 1)) 428 104 (n3 428 104 + 1)) _
        rw [← hnB]
        have g3m : m3 404 18 = n3 428 104 := by rw [cf3 404 18 (by decide), g3]; exact zg
        obtain ⟨mB, hmB⟩ : ∃ mB, mB = w_up (p_row m3 416 (5 * m3 404 18) c (m3 413 4) (m3 413 5) (m3 408 8) (m3 408 7)) 404 18 (m3 404 18 + 1) := ⟨_, rfl⟩
        have bB : ∀ i j : Int, i ≠ 481 → ¬ (i = 428 ∧ j = 104) → nB i j = n3 i j := fun i j w1 w2 => by
          rw [hnB]
          by_cases z : i = 428 ∧ j = 104
          · exact absurd z w2
          · have : w_up (p_row n3 481 (5 * n3 428 104) c (n3 477 4) (n3 477 5) (n3 479 5) (n3 479 1)) 428 104 (n3 428 104 + 1) i j = p_row n3 481 (5 * n3 428 104) c (n3 477 4) (n3 477 5) (n3 479 5) (n3 479 1) i j := if_neg z
            rw [this, p_row_o w1]
        have aB : ∀ i j : Int, i ≠ 416 → ¬ (i = 404 ∧ j = 18) → mB i j = m3 i j := fun i j w1 w2 => by
          rw [hmB]
          have : w_up (p_row m3 416 (5 * m3 404 18) c (m3 413 4) (m3 413 5) (m3 408 8) (m3 408 7)) 404 18 (m3 404 18 + 1) i j = p_row m3 416 (5 * m3 404 18) c (m3 413 4) (m3 413 5) (m3 408 8) (m3 408 7) i j := if_neg w2
          rw [this, p_row_o w1]
        have snB : p_sn n nB := fun i j w1 w2 w3 => by rw [bB i j w2 (by omega)]; exact sn3 i j w1 w2 w3
        have sfB : p_sf m mB := fun i j w1 w2 w3 => by rw [aB i j w2 w3]; exact sf3 i j w1 w2 w3
        obtain ⟨wd32, wdr⟩ := zW c cr.1 cr.2
        refine wdr e nB _ snB.st (fun n5 e5 => ?_)
        obtain ⟨wd, hwd⟩ : ∃ wd, wd = m 414 c := ⟨_, rfl⟩
        rw [← hwd] at wd32 ⊢
        have f5 : ∀ i j : Int, i ≠ 481 → ¬ (i = 428 ∧ (j = 80 ∨ j = 104)) → n5 i j = n3 i j := fun i j w1 w2 => by rw [e5 i j (by omega), bB i j w1 (by omega)]
        have s5 : n5 479 5 = n 479 5 := by rw [f5 _ _ (by decide) (by decide)]; exact sn3 _ _ (by decide) (by decide) (by decide)
        have s6 : n5 479 6 = n 479 6 := by rw [f5 _ _ (by decide) (by decide)]; exact sn3 _ _ (by decide) (by decide) (by decide)
        have s7 : n5 479 7 = n 479 7 := by rw [f5 _ _ (by decide) (by decide)]; exact sn3 _ _ (by decide) (by decide) (by decide)
        have mb := p_mulb wd32 z8'
        have tb := p_th_b mb
        rw [s5, w_64_id (x := wd * n 479 5) (by omega) (by omega)]
        refine sp_m_thousandth (d := e + 8) ?_
        rw [p_th_m mb, s6, s7]
        have z9'' := z9'
        have z10'' := z10'
        unfold p_32 at z9'' z10''
        obtain ⟨v, hv⟩ : ∃ v, v = p_th (wd * n 479 5) + n 479 6 + (if c = 32 then n 479 7 else 0) := ⟨_, rfl⟩
        have b8 : mB 408 8 = n 479 5 := by rw [aB _ _ (by decide) (by decide), cf3 _ _ (by decide)]; exact z8
        have b9 : mB 408 9 = n 479 6 := by rw [aB _ _ (by decide) (by decide), cf3 _ _ (by decide)]; exact z9
        have b10 : mB 408 10 = n 479 7 := by rw [aB _ _ (by decide) (by decide), cf3 _ _ (by decide)]; exact z10
        have b14 : mB 414 c = wd := by rw [aB _ _ (by decide) (by omega), cf3 _ _ (by decide), hwd]
        -- the class up to its advance
        have runB : ∀ X : Int → w_M → Prop, xc_pa_advance (d + 3) v mB (fun r6 m6 => if r6 = 0 then (X 14 m6) else (xp_pa_showString_2 (d + 3) a (i + 1) m6 X)) → xp_pa_showString_2 (d + 3) a i m X := fun X hX => runA X (by
          rw [if_pos (by omega)]
          refine run3 _ ?_
          rw [u1, if_neg n10]
          refine c_keep (d := d + 2) (by omega) ?_
          rw [← hmB]
          refine ⟨cr, ?_⟩
          rw [b14]
          refine sp_scaled (d := d + 1) (by rw [b8]; exact z8') (Or.inl wd32) ?_
          rw [b8, b9, b10, e1]
          by_cases q32 : c = 32
          · rw [if_pos q32] at hv ⊢
            rw [w_64_id (x := p_th (wd * n 479 5) + n 479 6) (by omega) (by omega), w_64_id (by omega) (by omega), ← hv]
            exact hX
          · rw [if_neg q32] at hv ⊢
            rw [w_64_id (x := p_th (wd * n 479 5) + n 479 6) (by omega) (by omega), w_64_id (by omega) (by omega), ← hv]
            exact hX)
        have MB : p_M mB n5 := fun k k0 k1 => by
          rw [aB 408 k (by decide) (by omega), aB 410 k (by decide) (by omega), aB 411 k (by decide) (by omega), f5 474 k (by decide) (by omega), f5 475 k (by decide) (by omega), f5 476 k (by decide) (by omega)]
          exact u3 k k0 k1
        have h57 : n5 428 27 = 0 := by rw [f5 _ _ (by decide) (by decide)]; exact u2
        have mov := s_moves (d := d) (e := e + 5) (v := v) MB h57
        have A5 : n5 428 106 = A := by rw [f5 _ _ (by decide) (by decide), sn3 _ _ (by decide) (by decide) (by decide)]; exact hA
        have rest : xc_m_moves (e + 9) v n5 (fun _ m7 => xp_m_shows_22 (e + 9) s (i + 1) m7 (fun _ n1 => ∃ r m1, (∀ X : Int → w_M → Prop, X r m1 → xp_pa_showString_2 (d + 3) a i m X) ∧ p_sf m m1 ∧ p_sn n n1 ∧ ((r = 0 ∧ n1 428 27 = 0 ∧ p_Z m1 n1) ∨ (r ≠ 0 ∧ n1 428 27 = r ∧ n1 428 28 = A)))) := by
          refine w_C.more mov (fun _ n7 h7' => ?_)
          obtain ⟨r7, m7, run7, cf7, nf7, fin7⟩ := h7'
          have sf7 : p_sf m m7 := fun i j w1 w2 w3 => by rw [cf7 i j (by omega)]; exact sfB i j w1 w2 w3
          have sn7 : p_sn n n7 := fun i j w1 w2 w3 => by rw [nf7 i j w1 (by omega), e5 i j (by omega)]; exact snB i j w1 w2 w3
          rcases fin7 with ⟨x1, x2, x3⟩ | ⟨x1, x2, x3⟩
          · have S7 : p_S m7 n7 a s := hS.fr sf7 sn7
            have Z7 : p_Z m7 n7 := by
              have gm : m7 404 18 = n 428 104 + 1 := by rw [cf7 404 18 (by decide), hmB, w_up_eq, g3m, g3]
              have gn : n7 428 104 = n 428 104 + 1 := by rw [nf7 428 104 (by decide) (by decide), e5 _ _ (by decide), hnB, w_up_eq, g3]
              refine ⟨x3, ⟨by rw [gm, gn], by rw [gn]; omega, fun i i0 i1 => ?_⟩, ?_, ⟨?_, ?_⟩, ⟨?_, ?_⟩, ⟨?_, ?_⟩, zW.fr (fun c => sf7 414 c (by decide) (by decide) (by omega)) sn7.st⟩
              · rw [gn] at i1
                rw [cf7 416 i (by decide), nf7 481 i (by decide) (by omega), e5 481 i (by omega), hmB, hnB, w_up_ne (by decide), w_up_ne (by decide), g3m]
                refine p_row_eq rfl (u4 4 (by decide) (by decide)).1 (u4 5 (by decide) (by decide)).1 ?_ ?_ (fun i i0 i1 => ?_) i i0 (by omega)
                · rw [cf3 408 8 (by decide), nf3 479 5 (by decide) (by decide)]; exact z8
                · rw [cf3 408 7 (by decide), nf3 479 1 (by decide) (by decide)]; exact z7
                · rw [cf3 416 i (by decide), nf3 481 i (by decide) (by omega)]
                  exact zg3 i i0 (by omega)
              · rw [sf7 408 7 (by decide) (by decide) (by decide), sn7 479 1 (by decide) (by decide) (by decide)]; exact z7
              · rw [sf7 408 8 (by decide) (by decide) (by decide), sn7 479 5 (by decide) (by decide) (by decide)]; exact z8
              · rw [sn7 479 5 (by decide) (by decide) (by decide)]; exact z8'
              · rw [sf7 408 9 (by decide) (by decide) (by decide), sn7 479 6 (by decide) (by decide) (by decide)]; exact z9
              · rw [sn7 479 6 (by decide) (by decide) (by decide)]; exact z9'
              · rw [sf7 408 10 (by decide) (by decide) (by decide), sn7 479 7 (by decide) (by decide) (by decide)]; exact z10
              · rw [sn7 479 7 (by decide) (by decide) (by decide)]; exact z10'
            have e35 : n7 435 s = n 435 s := sn7 435 s (by decide) (by decide) (by omega)
            refine w_W.more (ih (i + 1) m7 n7 (by rw [e35]; omega) (by omega) S7 Z7 x2 (by rw [sn7 428 106 (by decide) (by decide) (by decide)]; exact hA)) (fun _ n8 h8' => ?_)
            obtain ⟨r8, m8, run8, sf8, sn8, fin8⟩ := h8'
            refine ⟨r8, m8, fun X hX => runB X (run7 _ ?_), fun i j w1 w2 w3 => by rw [sf8 i j w1 w2 w3]; exact sf7 i j w1 w2 w3, fun i j w1 w2 w3 => by rw [sn8 i j w1 w2 w3]; exact sn7 i j w1 w2 w3, fin8⟩
            rw [x1, if_neg n10]
            exact run8 X hX
          · have bad0 : ∀ x : w_M, x 428 27 = 14 → f_m_good x = 0 := fun x e => if_neg (by rw [e]; decide)
            have post : ∃ r m1, (∀ X : Int → w_M → Prop, X r m1 → xp_pa_showString_2 (d + 3) a i m X) ∧ p_sf m m1 ∧ p_sn n n7 ∧ ((r = 0 ∧ n7 428 27 = 0 ∧ p_Z m1 n7) ∨ (r ≠ 0 ∧ n7 428 27 = r ∧ n7 428 28 = A)) :=
              ⟨14, m7, fun X hX => runB X (run7 _ (by rw [x1, if_pos rfl]; exact hX)), sf7, sn7, Or.inr ⟨by decide, x2, by rw [x3]; exact A5⟩⟩
            apply xr_m_shows_22
            refine ⟨h7, z_ite (fun _ => ?_) (fun _ => post)⟩
            refine sp_m_good (d := e + 8) ?_
            rw [bad0 n7 x2, if_pos rfl]
            exact post
        by_cases q32 : c = 32
        · rw [if_pos q32] at hv ⊢
          rw [w_64_id (x := p_th (wd * n 479 5) + n 479 6) (by omega) (by omega), w_64_id (x := p_th (wd * n 479 5) + n 479 6 + n 479 7) (by omega) (by omega), ← hv, e1]
          exact rest
        · rw [if_neg q32] at hv ⊢
          rw [w_64_id (x := p_th (wd * n 479 5) + n 479 6) (by omega) (by omega), w_64_id (x := p_th (wd * n 479 5) + n 479 6 + 0) (by omega) (by omega), ← hv, e1]
          exact rest
      · refine sp_m_good (d := e + 8) ?_
        rw [show f_m_good n3 = 0 from if_neg (by rw [u2]; decide), if_pos rfl]
        refine ⟨14, m3, fun X hX => runA X ?_, sf3, sn3, Or.inr ⟨by decide, u2, by rw [u3]; exact hA⟩⟩
        rw [if_pos (by omega)]
        refine run3 _ ?_
        rw [u1, if_pos rfl]
        exact hX
/-- a string is shown, where a font is -/
theorem s_shows (hS : p_S m n a s) (hZ : p_Z m n) (h27 : n 428 27 = 0) (hf : 0 ≤ n 479 0) : xc_m_shows (e + 10) s n (fun _ n1 => ∃ r m1, (∀ X : Int → w_M → Prop, X r m1 → xc_pa_showString (d + 4) a m X) ∧ p_sf m m1 ∧ p_sn n n1 ∧
    ((r = 0 ∧ n1 428 27 = 0 ∧ p_Z m1 n1) ∨ (r ≠ 0 ∧ n1 428 27 = r ∧ n1 428 28 = n 428 106))) := by
  apply xr_m_shows
  rw [if_neg (by omega)]
  have t0 := hS.2.2.2.2.2.1.1
  refine w_W.more (s_shows22 (d := d) (e := e) (n 435 s).toNat 0 m n (by omega) (Int.le_refl _) hS hZ h27 rfl) (fun _ n1 h => ?_)
  obtain ⟨r, m1, run, x1, x2, x3⟩ := h
  exact ⟨r, m1, fun X hX => xr_pa_showString (run X hX), x1, x2, x3⟩
end PS2
