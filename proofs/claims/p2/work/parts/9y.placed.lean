/-! ===== the loader: an object stands at its place: the class ===== -/
theorem t_cobj4 : t_s 4 e_obj := ⟨by decide, by decide, by decide, _, rfl⟩
theorem t_cstream6 : t_s 6 e_stream := ⟨by decide, by decide, by decide, _, rfl⟩
theorem t_cendobj8 : t_s 8 e_endobj := ⟨by decide, by decide, by decide, _, rfl⟩
/-- where it should stand -/
def l_pl (m : w_M) (L k : Int) : Int := if m 368 k < 0 ∨ L < m 368 k then L else m 368 k
/-- its head is there -/
def l_hd (m : w_M) (W : Int → Int) (L k : Int) : Prop := e_hd W L (l_pl m L k) ∧ e_un W L (e_p1 W L (l_pl m L k)) = k ∧ e_un W L (e_p2 W L (l_pl m L k)) = m 369 k
section SN
variable {d : Nat} {m m' m1 m2 m3 : w_M} {Q : Int → w_M → Prop} {W : Int → Int} {L p k v x : Int}
theorem sp_findPlaced (h : l_fb m W L) (hu : l_us m k) (hs : m 366 11 ≤ 200) (hg : -1 ≤ m 369 k) 
    (H1 : l_hd m W L k → ∀ m', l_op m m' → m' 376 6 = m 376 6 → m' 376 3 = 0 → e_J m' W L (e_p3 W L (l_pl m L k) + 3) → Q 1 m') (H0 : ¬ l_hd m W L k → ∀ m', l_op m m' → m' 376 6 ≠ 0 → Q 0 m') : xc_lo_findPlaced (d + 8) k m Q := by
  have h1 := h.2.2.1
  have L0 := h.1.1
  apply xr_lo_findPlaced
  refine sp_open (d := d + 6) h (fun m1 f1 e6 e3 J1 => ?_)
  have us : ∀ {m' : w_M}, l_op m m' → l_us m' k := fun f => by
    obtain ⟨a1, a2, a3⟩ := hu
    exact ⟨a1, by rw [f _ _ (by omega)]; exact a2, by rw [f _ _ (by omega)]; exact a3⟩
  have sz : ∀ {m' : w_M}, l_op m m' → m' 366 11 ≤ 200 := fun f => by rw [f _ _ (by omega)]; exact hs
  refine sp_placeOf_y (d := d + 5) (us f1) (sz f1) ?_
  refine sp_clip (d := d + 6) ?_
  have ep : (if m1 368 k < 0 ∨ m1 394 1 < m1 368 k then m1 394 1 else m1 368 k) = l_pl m L k := by
    rw [f1 _ _ (by omega), f1 _ _ (by omega), h1]
    rfl
  rw [ep]
  have pr : 0 ≤ l_pl m L k ∧ l_pl m L k ≤ L := by
    unfold l_pl
    by_cases q : m 368 k < 0 ∨ L < m 368 k
    · rw [if_pos q]; exact ⟨L0, Int.le_refl _⟩
    · rw [if_neg q]; exact ⟨by omega, by omega⟩
  unfold l_hd at H1 H0
  obtain ⟨p, hp⟩ : ∃ p, p = l_pl m L k := ⟨_, rfl⟩
  rw [← hp] at pr H1 H0 ⊢
  clear ep hp
  have J2 := J1.mv pr.1 pr.2
  rw [e3, Int.zero_add] at J2
  have f2 : l_op m (w_up m1 376 4 p) := f1.tr (fun i j q => by unfold w_up; rw [if_neg (by omega)])
  have e63 : (w_up m1 376 4 p) 376 6 = m 376 6 ∧ (w_up m1 376 4 p) 376 3 = 0 := ⟨by rw [w_up_nb (by decide)]; exact e6, by rw [w_up_nb (by decide)]; exact e3⟩
  obtain ⟨m2, hm2⟩ : ∃ m2, m2 = w_up m1 376 4 p := ⟨_, rfl⟩
  rw [← hm2] at J2 f2 e63 ⊢
  have bad : ∀ {m' : w_M}, l_op m m' → ¬ (e_hd W L p ∧ e_un W L (e_p1 W L p) = k ∧ e_un W L (e_p2 W L p) = m 369 k) → xc_lo_failObject (d + 7) k m' (fun _ m4 => Q 0 m4) := fun f z =>
    sp_failObject (d := d + 4) (sz f) (fun m' f' y => H0 z m' (f.tr f') y)
  refine sp_unsigned (d := d + 4) J2.1 rfl (fun u1 m3 c3 s3 => ?_) (fun u1 m3 c3 s3 => ?_)
  · have u1 : t_un W L (e_p1 W L p) := u1
    have r1 := e_un0 u1
    have e1 : g_va (g_s W (k_w W (L - p).toNat false p) (g_len W (L - k_w W (L - p).toNat false p).toNat (k_w W (L - p).toNat false p))) (W (k_w W (L - p).toNat false p)) = e_un W L (e_p1 W L p) := rfl
    rw [e1, if_neg (by omega)]
    have s3 : c_st m3 376 W L (e_ue W L (e_p1 W L p)) := s3
    refine sp_unsigned (d := d + 4) s3 rfl (fun u2 m4 c4 s4 => ?_) (fun u2 m4 c4 s4 => ?_)
    · have u2 : t_un W L (e_p2 W L p) := u2
      have r2 := e_un0 u2
      have e2 : g_va (g_s W (k_w W (L - e_ue W L (e_p1 W L p)).toNat false (e_ue W L (e_p1 W L p))) (g_len W (L - k_w W (L - e_ue W L (e_p1 W L p)).toNat false (e_ue W L (e_p1 W L p))).toNat (k_w W (L - e_ue W L (e_p1 W L p)).toNat false (e_ue W L (e_p1 W L p))))) (W (k_w W (L - e_ue W L (e_p1 W L p)).toNat false (e_ue W L (e_p1 W L p)))) = e_un W L (e_p2 W L p) := rfl
      have s4 : c_st m4 376 W L (e_ue W L (e_p2 W L p)) := s4
      rw [e2]
      have c24 : c_ch m2 m4 376 := c3.tr c4
      have f4 : l_op m m4 := f2.tr c24.lop
      apply xr_lo_findPlaced_58
      by_cases q1 : e_un W L (e_p1 W L p) = k
      · rw [if_pos q1, if_neg (by omega)]
        refine sp_generationOf_y (d := d + 5) (us f4) (sz f4) ?_
        rw [f4 369 k (by omega)]
        by_cases q2 : e_un W L (e_p2 W L p) = m 369 k
        · rw [if_pos q2]
          refine sp_word (d := d + 1) (p' := e_p3 W L p) t_cobj4 s4 rfl (fun w m5 c5 s5 => ?_) (fun w m5 c5 s5 => ?_)
          · rw [if_neg (by decide)]
            have c25 := c24.tr c5
            exact H1 ⟨⟨u1, u2, w⟩, q1, q2⟩ m5 (f4.tr c5.lop) (by rw [c25 _ _ (by omega)]; exact e63.1) (by rw [c25 _ _ (by omega)]; exact e63.2) (J2.ch c25 s5)
          · rw [if_pos rfl]
            exact bad (f4.tr c5.lop) (fun z => w z.1.2.2)
        · rw [if_neg q2]
          exact bad f4 (fun z => q2 z.2.2)
      · rw [if_neg q1]
        exact bad f4 (fun z => q1 z.2.1)
    · have f4 : l_op m m4 := f2.tr (c3.tr c4).lop
      apply xr_lo_findPlaced_58
      have no := bad f4 (fun z => u2 z.1.2.1)
      by_cases q1 : e_un W L (e_p1 W L p) = k
      · rw [if_pos q1, if_pos (by decide)]; exact no
      · rw [if_neg q1]; exact no
  · rw [if_pos (by decide)]
    have f3 : l_op m m3 := f2.tr c3.lop
    have no := bad f3 (fun z => u1 z.1.1)
    apply xr_lo_findPlaced_58
    by_cases q1 : -1 = k
    · rw [if_pos q1, if_pos (by decide)]; exact no
    · rw [if_neg q1]; exact no
end SN
