/-! ===== heads of objects, ends of streams: both sides ===== -/
/-- the reference stands at p, with room -/
def e_G (n : w_M) (W : Int → Int) (L p : Int) : Prop := m_st n W L p ∧ (n 428 18 = 430 ∨ 440 < n 428 18) ∧ 0 ≤ n 428 17 ∧ n 428 17 + L ≤ 140000 + p
def e_ma (n n' : w_M) : Prop := ∀ a b : Int, ¬ (a = 428 ∧ ((21 ≤ b ∧ b ≤ 26) ∨ b = 77 ∨ b = 78)) → ¬ (a = 440 ∧ n 428 17 ≤ b ∧ b < 140000) → n' a b = n a b
/-- an unsigned whole at p, and behind it -/
def e_un (W : Int → Int) (L p : Int) : Int := g_va (g_s W p (g_len W (L - p).toNat p)) (W p)
def e_ue (W : Int → Int) (L p : Int) : Int := p + g_len W (L - p).toNat p
def e_obj : List Int := [111, 98, 106]
def e_stream : List Int := [115, 116, 114, 101, 97, 109]
def e_endstream : List Int := [101, 110, 100, 115, 116, 114, 101, 97, 109]
def e_endobj : List Int := [101, 110, 100, 111, 98, 106]
theorem t_cobj : t_s 24 e_obj := ⟨by decide, by decide, by decide, _, rfl⟩
theorem t_mobj : t_s 226 e_obj := ⟨by decide, by decide, by decide, _, rfl⟩
theorem t_cstream : t_s 28 e_stream := ⟨by decide, by decide, by decide, _, rfl⟩
theorem t_mstream : t_s 272 e_stream := ⟨by decide, by decide, by decide, _, rfl⟩
theorem t_mendobj : t_s 274 e_endobj := ⟨by decide, by decide, by decide, _, rfl⟩
theorem t_mendstream : t_s 308 e_endstream := ⟨by decide, by decide, by decide, _, rfl⟩
def e_p1 (W : Int → Int) (L p : Int) : Int := e_kw W L p
def e_p2 (W : Int → Int) (L p : Int) : Int := e_kw W L (e_ue W L (e_kw W L p))
def e_p3 (W : Int → Int) (L p : Int) : Int := e_kw W L (e_ue W L (e_p2 W L p))
/-- a number, a generation, obj -/
def e_hd (W : Int → Int) (L p : Int) : Prop := t_un W L (e_p1 W L p) ∧ t_un W L (e_p2 W L p) ∧ t_is W L (e_p3 W L p) e_obj
noncomputable def e_ss (W : Int → Int) (L p : Int) : Int := by classical exact (if t_is W L (e_kw W L p) e_stream then u_b W (e_kw W L p + 6) else -1)
section EH
variable {d : Nat} {m m' m2 n n' n2 : w_M} {Q : Int → w_M → Prop} {W : Int → Int} {L p p' q a b v : Int} {l : List Int}
theorem e_ma.rf : e_ma n n := fun _ _ _ _ => rfl
theorem e_ma.k17 (h : e_ma n n') : n' 428 17 = n 428 17 := h _ _ (by omega) (by omega)
theorem e_ma.tr (h : e_ma n n') (h2 : e_ma n' n2) : e_ma n n2 := fun a b q1 q2 => (h2 a b q1 (by rw [h.k17]; exact q2)).trans (h a b q1 q2)
theorem m_ag.ema (h : m_ag n n') : e_ma n n' := fun a b q1 q2 => h a b (by omega) q2
theorem e_kw_r (h0 : 0 ≤ p) (h1 : p ≤ L) : p ≤ e_kw W L p ∧ e_kw W L p ≤ L := by
  have r := k_w_r W (L - p).toNat false p
  unfold e_kw
  omega
theorem e_ue_r (h0 : 0 ≤ p) (h1 : p ≤ L) : p ≤ e_ue W L p ∧ e_ue W L p ≤ L := by
  have r := g_len_le W (L - p).toNat p
  unfold e_ue
  omega
theorem e_G.ma (h : e_G n W L p) (hf : e_ma n n') (h21 : n' 428 21 = p') (h0 : p ≤ p') (h1 : p' ≤ L) : e_G n' W L p' := by
  obtain ⟨⟨a1, a2, a3, a4, a5⟩, b1, b2, b3⟩ := h
  have e : ∀ b : Int, ¬ (21 ≤ b ∧ b ≤ 26) → b ≠ 77 → b ≠ 78 → n' 428 b = n 428 b := fun b z1 z2 z3 => hf _ _ (by omega) (by omega)
  refine ⟨⟨a1.far (fun b q1 q2 => e b (by omega) (by omega) (by omega)) (fun b => hf _ _ (by omega) (by omega)), a2, h21, by omega, h1⟩, by rw [e 18 (by decide) (by decide) (by decide)]; exact b1, by rw [e 17 (by decide) (by decide) (by decide)]; exact b2, by rw [e 17 (by decide) (by decide) (by decide)]; omega⟩
theorem m_tk.row (h : m_tk n W L p) (hr : b_reg (W p)) : m_row n W L p ∧ n 428 21 = e_ue W L p := by
  obtain ⟨h0, h⟩ := h
  rcases h with h | h | h | h | h | h | h | h | h
  · omega
  · exact ⟨h.2.1, h.2.2⟩
  · have z := h.1
    clear h
    omega
  · have z := h.1
    clear h
    omega
  · omega
  · omega
  · omega
  · omega
  · exact absurd hr h.2.2.1
theorem m_tk.nrow (h : m_tk n W L p) (hr : ¬ b_reg (W p)) : n 428 22 ≠ 3 ∧ n 428 22 ≠ 1 := by
  obtain ⟨h0, h⟩ := h
  rcases h with h | h | h | h | h | h | h | h | h
  · omega
  · exact absurd h.1 hr
  · rcases h.2 with ⟨_, _, _, r⟩ | ⟨_, _, _, _, _, _, _, _, r⟩
    · omega
    · split at r <;> omega
  · rcases h.2 with ⟨_, _, _, r⟩ | ⟨_, _, _, _, _, _, _, _, r⟩
    · omega
    · split at r <;> omega
  · omega
  · omega
  · omega
  · omega
  · omega
theorem m_tk.un (h : m_tk n W L p) : (n 428 22 = 1 ∧ n 428 25 = 0) ↔ t_un W L p := by
  by_cases hr : b_reg (W p)
  · have r := h.row hr
    exact ⟨fun z => m_row_un r.1 z.1 z.2, fun z => by have := m_row_un2 r.1 z; exact ⟨this.1, this.2.1⟩⟩
  · have r := h.nrow hr
    exact ⟨fun z => absurd z.1 r.2, fun z => absurd (t_un_reg z) hr⟩
theorem m_tk.un2 (h : m_tk n W L p) (z : t_un W L p) : n 428 24 = e_un W L p ∧ n 428 21 = e_ue W L p := by
  have r := h.row (t_un_reg z)
  exact ⟨(m_row_un2 r.1 z).2.2, r.2⟩
theorem r_tok (h : e_G n W L p) (hQ : ∀ n', m_ag n n' → m_tk n' W L (e_kw W L p) → Q 0 n') : xc_m_token (d + 5) n Q := by
  obtain ⟨h1, h2, h3, h4⟩ := h
  exact sp_tok h1 (by omega) ⟨h3, h4⟩ rfl hQ
theorem r_isW (h : m_tk n W L p) (hv : v_m n W L) (hs : t_s a l) (hl0 : 0 < l.length) (hl1 : 65 ≤ l.getD 0 0) (p0 : 0 ≤ p) (h1 : t_is W L p l → n 428 21 = p + l.length → Q 1 n) (h0 : ¬ t_is W L p l → Q 0 n) : xc_m_isWord (d + 5) a n Q := by
  by_cases hr : b_reg (W p)
  · have r := h.row hr
    refine sp_isWord hs hl0 hl1 hv h.1 p0 r.1 (fun z => h1 z ?_) h0
    rw [r.2]
    unfold e_ue
    rw [z.1]
  · have r := h.nrow hr
    exact sp_isWord_n r.1 (h0 (fun z => hr (t_is_reg z hl0)))
theorem e_un0 (h : t_un W L p) : 0 ≤ e_un W L p ∧ e_un W L p ≤ 2147483647 := by
  have h1 := g_va_0 h.1 (c := W p) (fun z => h.2.1 (Or.inr z))
  have h2 := h.2.2
  unfold g_by at h2
  unfold e_un
  omega
/-- the head in the reference -/
theorem r_header (h : e_G n W L p) (H1 : e_hd W L p → ∀ n', e_ma n n' → e_G n' W L (e_p3 W L p + 3) → n' 428 77 = e_un W L (e_p1 W L p) → n' 428 78 = e_un W L (e_p2 W L p) → Q 1 n') (H0 : ¬ e_hd W L p → ∀ n', e_ma n n' → Q 0 n') : xc_m_header (d + 6) n Q := by
  have hv := h.1.1
  have p0 := h.1.2.2.2.1
  have pL := h.1.2.2.2.2
  have k1 := e_kw_r (W := W) p0 pL
  apply xr_m_header
  refine r_tok h (fun n1 t1 k => ?_)
  have x1 : ∀ v : Int, e_ma n (w_up n1 428 77 v) := fun v => t1.ema.tr (fun a b q1 q2 => by unfold w_up; rw [if_neg (by omega)])
  have none : ¬ t_un W L (e_p1 W L p) → xp_m_header_24 (d + 5) 0 n1 Q := by
    intro z
    apply xr_m_header_24
    rw [if_pos rfl, if_pos rfl]
    exact ⟨Or.inl rfl, H0 (fun w => z w.1) _ (x1 _)⟩
  by_cases u1 : t_un W L (e_p1 W L p)
  · obtain ⟨a1, a2⟩ := k.un.mpr u1
    obtain ⟨a3, a4⟩ := k.un2 u1
    have k2 := e_ue_r (W := W) (L := L) (p := e_kw W L p) (by omega) (by omega)
    have k3 := e_kw_r (W := W) (L := L) (p := e_ue W L (e_kw W L p)) (by omega) (by omega)
    rw [if_pos a1, if_pos a2]
    apply xr_m_header_24
    rw [if_neg (by decide), a3]
    obtain ⟨n2, hn2⟩ : ∃ n2, n2 = w_up n1 428 77 (e_un W L (e_kw W L p)) := ⟨_, rfl⟩
    have G2 : e_G n2 W L (e_ue W L (e_kw W L p)) := by rw [hn2]; exact h.ma (x1 _) (by rw [w_up_nb (by decide)]; exact a4) (by omega) (by omega)
    have m2 : e_ma n n2 := by rw [hn2]; exact x1 _
    have h77 : n2 428 77 = e_un W L (e_p1 W L p) := by rw [hn2, w_up_eq]; rfl
    rw [← hn2]
    refine r_tok G2 (fun n3 t3 k' => ?_)
    have y1 : ∀ v : Int, e_ma n (w_up n3 428 78 v) := fun v => (m2.tr t3.ema).tr (fun a b q1 q2 => by unfold w_up; rw [if_neg (by omega)])
    by_cases u2 : t_un W L (e_p2 W L p)
    · obtain ⟨b1, b2⟩ := k'.un.mpr u2
      obtain ⟨b3, b4⟩ := k'.un2 u2
      have k4 := e_ue_r (W := W) (L := L) (p := e_p2 W L p) (by show 0 ≤ e_kw W L (e_ue W L (e_kw W L p)); omega) (by show e_kw W L (e_ue W L (e_kw W L p)) ≤ L; omega)
      have k4' : e_p2 W L p ≤ e_ue W L (e_p2 W L p) := k4.1
      have k5 := e_kw_r (W := W) (L := L) (p := e_ue W L (e_p2 W L p)) (by show 0 ≤ e_ue W L (e_p2 W L p); have : e_p2 W L p = e_kw W L (e_ue W L (e_kw W L p)) := rfl; omega) k4.2
      have e2 : e_p2 W L p = e_kw W L (e_ue W L (e_kw W L p)) := rfl
      rw [if_pos b1, if_pos b2, b3]
      obtain ⟨n4, hn4⟩ : ∃ n4, n4 = w_up n3 428 78 (e_un W L (e_kw W L (e_ue W L (e_kw W L p)))) := ⟨_, rfl⟩
      have m4 : e_ma n n4 := by rw [hn4]; exact y1 _
      have G4 : e_G n4 W L (e_ue W L (e_p2 W L p)) := by rw [hn4]; exact h.ma (y1 _) (by rw [w_up_nb (by decide)]; exact b4) (by omega) (by omega)
      have h78 : n4 428 78 = e_un W L (e_p2 W L p) := by rw [hn4, w_up_eq]; rfl
      have h774 : n4 428 77 = e_un W L (e_p1 W L p) := by rw [hn4, w_up_nb (by decide), t3 _ _ (by omega) (by omega)]; exact h77
      rw [← hn4]
      refine r_tok G4 (fun n5 t5 k5' => ?_)
      have m5 := m4.tr t5.ema
      have v5 : v_m n5 W L := G4.1.1.fr G4.2.1 t5.fr
      refine r_isW k5' v5 t_mobj (by decide) (by decide) (by omega) (fun w w21 => ⟨Or.inr rfl, ?_⟩) (fun w => ⟨Or.inl rfl, H0 (fun y => w y.2.2) n5 m5⟩)
      have in3 : e_p3 W L p + 3 ≤ L := by
        have r := g_len_le W (L - e_kw W L (e_ue W L (e_p2 W L p))).toNat (e_kw W L (e_ue W L (e_p2 W L p)))
        have := w.1
        have l3 : e_obj.length = 3 := rfl
        show e_kw W L (e_ue W L (e_p2 W L p)) + 3 ≤ L
        omega
      have e3 : e_p3 W L p = e_kw W L (e_ue W L (e_p2 W L p)) := rfl
      refine H1 ⟨u1, u2, w⟩ n5 m5 (h.ma m5 (by rw [w21]; rfl) (by omega) in3) ?_ ?_
      · rw [t5 _ _ (by omega) (by omega)]; exact h774
      · rw [t5 _ _ (by omega) (by omega)]; exact h78
    · have nu : ¬ (n3 428 22 = 1 ∧ n3 428 25 = 0) := fun w => u2 (k'.un.mp w)
      have z := H0 (fun w => u2 w.2.1) _ (y1 (n3 428 24))
      by_cases c1 : n3 428 22 = 1
      · rw [if_pos c1, if_neg (fun w => nu ⟨c1, w⟩)]
        exact z
      · rw [if_neg c1]
        exact z
  · have nu : ¬ (n1 428 22 = 1 ∧ n1 428 25 = 0) := fun w => u1 (k.un.mp w)
    by_cases c1 : n1 428 22 = 1
    · rw [if_pos c1, if_neg (fun w => nu ⟨c1, w⟩)]
      exact none u1
    · rw [if_neg c1]
      exact none u1
/-- where a stream's bytes begin -/
theorem r_streamStart (h : e_G n W L p) (hQ : ∀ n', m_ag n n' → Q (e_ss W L p) n') : xc_m_streamStart (d + 6) n Q := by
  have p0 := h.1.2.2.2.1
  have pL := h.1.2.2.2.2
  have hL := h.1.2.1
  have k1 := e_kw_r (W := W) p0 pL
  apply xr_m_streamStart
  refine r_tok h (fun n1 t1 k => ?_)
  have v1 : v_m n1 W L := h.1.1.fr h.2.1 t1.fr
  have hQ := hQ n1 t1
  unfold e_ss at hQ
  refine r_isW k v1 t_mstream (by decide) (by decide) (by omega) (fun w w21 => ?_) (fun w => ?_)
  · have w21 : n1 428 21 = e_kw W L p + 6 := w21
    rw [if_pos w] at hQ
    rw [if_neg (by decide)]
    obtain ⟨s, hs⟩ : ∃ s, s = e_kw W L p + 6 := ⟨_, rfl⟩
    rw [← hs] at w21 hQ
    have in3 : s ≤ L := by
      have r := g_len_le W (L - e_kw W L p).toNat (e_kw W L p)
      have := w.1
      have l3 : e_stream.length = 6 := rfl
      omega
    unfold u_b at hQ
    have p0' : ∀ (R : Int → w_M → Prop), R (W s) n1 → xc_m_peek (d + 5) 0 n1 R := fun R hR => sp_r_peek v1 w21 (by omega) (by omega) (by decide) (by decide) (by rw [Int.add_zero]; exact hR)
    have f40 : ¬ (W s = 13 ∧ W (s + 1) = 10) → xp_m_streamStart_40 (d + 5) n1 Q := by
      intro z
      rw [if_neg z] at hQ
      apply xr_m_streamStart_40
      refine p0' _ ?_
      rw [w21, w_32_id (x := s + 1) (by omega) (by omega)]
      by_cases q2 : W s = 10
      · rw [if_pos q2] at hQ ⊢; exact hQ
      · rw [if_neg q2] at hQ ⊢; exact hQ
    refine p0' _ ?_
    by_cases q1 : W s = 13
    · rw [if_pos q1]
      refine sp_r_peek v1 w21 (by omega) (by omega) (by decide) (by decide) ?_
      by_cases q2 : W (s + 1) = 10
      · rw [if_pos ⟨q1, q2⟩] at hQ
        rw [if_pos q2, w21, w_32_id (x := s + 2) (by omega) (by omega)]
        exact hQ
      · rw [if_neg q2]
        exact f40 (fun z => q2 z.2)
    · rw [if_neg q1]
      exact f40 (fun z => q1 z.1)
  · rw [if_neg w] at hQ
    rw [if_pos rfl]
    exact hQ
end EH
