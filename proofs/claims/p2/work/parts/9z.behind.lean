/-! ===== the loader: what stands behind an object: the class ===== -/
/-- a stream waits: its number, where its bytes begin, its dict -/
def l_push (m : w_M) (t k s y : Int) : w_M := w_up (w_up (w_up (w_up m 396 t k) 397 t s) 398 t y) 394 9 (t + 1)
section SO
variable {d : Nat} {m m' m1 m2 m3 : w_M} {Q : Int → w_M → Prop} {W : Int → Int} {L p k v x y : Int}
theorem sp_readBehind (hJ : e_J m W L p) (h3 : m 376 3 = 0) (hu : l_us m k) (hs : m 366 11 ≤ 200) (h9 : 0 ≤ m 394 9 ∧ m 394 9 < 200)
    (HS : f_st_kindOf m y = 7 → 0 ≤ e_ss W L p → ∀ m', l_op m m' → m' 376 6 = m 376 6 → (∃ q, e_J m' W L q) → m' 376 3 = 0 → Q 0 (l_push m' (m 394 9) k (e_ss W L p) y))
    (HE : ¬ (f_st_kindOf m y = 7 ∧ t_is W L (e_kw W L p) e_stream) → t_is W L (e_kw W L p) e_endobj → ∀ m', l_op m m' → m' 376 6 = m 376 6 → (∃ q, e_J m' W L q) → m' 376 3 = 0 → Q 0 (w_up m' 370 k y))
    (HF : ((f_st_kindOf m y = 7 ∧ t_is W L (e_kw W L p) e_stream ∧ e_ss W L p < 0) ∨ (¬ (f_st_kindOf m y = 7 ∧ t_is W L (e_kw W L p) e_stream) ∧ ¬ t_is W L (e_kw W L p) e_endobj)) → ∀ m', l_op m m' → m' 376 6 ≠ 0 → Q 0 m') : xc_lo_readBehind (d + 8) k y m Q := by
  obtain ⟨hok, b1, b2, b3, b4, p0, pL⟩ := e_bd hJ
  have us : ∀ {m' : w_M}, l_op m m' → l_us m' k := fun f => by
    obtain ⟨a1, a2, a3⟩ := hu
    exact ⟨a1, by rw [f _ _ (by omega)]; exact a2, by rw [f _ _ (by omega)]; exact a3⟩
  have sz : ∀ {m' : w_M}, l_op m m' → m' 366 11 ≤ 200 := fun f => by rw [f _ _ (by omega)]; exact hs
  have bad : ∀ {m' : w_M}, l_op m m' → ((f_st_kindOf m y = 7 ∧ t_is W L (e_kw W L p) e_stream ∧ e_ss W L p < 0) ∨ (¬ (f_st_kindOf m y = 7 ∧ t_is W L (e_kw W L p) e_stream) ∧ ¬ t_is W L (e_kw W L p) e_endobj)) → xc_lo_failObject (d + 7) k m' (fun _ m4 => Q 0 m4) := fun f z =>
    sp_failObject (d := d + 4) (sz f) (fun m' f' y => HF z m' (f.tr f') y)
  have fin : ∀ (m1 : w_M) (q : Int), c_ch m m1 376 → c_st m1 376 W L q → k_w W (L - q).toNat false q = e_kw W L p → ¬ (f_st_kindOf m y = 7 ∧ t_is W L (e_kw W L p) e_stream) →
      xc_ps_word (d + 7) 376 8 m1 (fun r3 m3 => if r3 = 0 then xc_lo_failObject (d + 7) k m3 (fun _ m4 => Q 0 m4) else xc_ta_setRoot (d + 7) k y m3 (fun _ m5 => Q 0 m5)) := by
    intro m1 q c1 s1 eq z
    refine sp_word (d := d + 1) (p' := e_kw W L p) t_cendobj8 s1 eq.symm (fun w m2 c2 s2 => ?_) (fun w m2 c2 s2 => ?_)
    · rw [if_neg (by decide)]
      have f2 := (c1.tr c2).lop
      refine sp_setRoot_y (d := d + 5) (us f2) (sz f2) ?_
      exact HE z w m2 f2 ((c1.tr c2) _ _ (by omega)) ⟨_, hJ.ch (c1.tr c2) s2⟩ (by rw [(c1.tr c2) _ _ (by omega)]; exact h3)
    · rw [if_pos rfl]
      exact bad (c1.tr c2).lop (Or.inr ⟨z, w⟩)
  apply xr_lo_readBehind
  refine sp_st_kindOf (d := d + 6) ?_
  by_cases q : f_st_kindOf m y = 7
  · rw [if_pos q]
    refine sp_word (d := d + 1) (p' := e_kw W L p) t_cstream6 hJ.1 rfl (fun w m1 c1 s1 => ?_) (fun w m1 c1 s1 => ?_)
    · rw [if_neg (by decide)]
      have ess : e_ss W L p = u_b W (e_kw W L p + e_stream.length) := if_pos w
      have e13 : m1 376 3 = 0 := by rw [c1 _ _ (by omega)]; exact h3
      refine sp_body (d := d + 5) s1 (fun z => ?_) (fun z => ?_)
      · rw [← ess] at z ⊢
        rw [e13, Int.zero_add, if_neg (by omega), c1 394 9 (by omega), if_neg (by omega), if_pos h9.2, w_32_id (x := m 394 9 + 1) (by omega) (by omega)]
        exact ⟨h9, h9, h9, HS q z m1 c1.lop (c1 _ _ (by omega)) ⟨_, hJ.ch c1 s1⟩ e13⟩
      · rw [← ess] at z
        rw [if_pos (by decide)]
        exact bad c1.lop (Or.inl ⟨q, w, z⟩)
    · rw [if_pos rfl]
      exact fin m1 _ c1 s1 (k_w_id ⟨p0, pL⟩ rfl) (fun z => w z.2)
  · rw [if_neg q]
    exact fin m p c_ch.rf hJ.1 rfl (fun z => q z.1)
end SO
