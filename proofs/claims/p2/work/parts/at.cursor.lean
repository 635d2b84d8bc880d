/-! ===== the accessors: go, up, down, here, letter ===== -/
section AD
variable {d e : Nat} {g g' : s_g} {m m' m0 m1 m2 n n' n0 n1 n2 : w_M} {Q R : Int → w_M → Prop} {k x y z i j a b v r w l : Int}
theorem s_go (h : d_ac g m n) : ∃ r m1 n1, (∀ X : Int → w_M → Prop, X r m1 → xc_x_go (d + 4) k m X) ∧ (∀ X : Int → w_M → Prop, X r n1 → xc_m_go (e + 2) k n X) ∧ d_ac g m1 n1 ∧ d_cm m m1 ∧ d_cn n n1 := by
  have cm1 : d_cm m (w_up m 357 12 (-1)) := fun i j q1 q2 => by
    unfold w_up
    rw [if_neg (by omega)]
  have cn1 : d_cn n (w_up n 428 88 (-1)) := fun i j q1 q2 => by
    unfold w_up
    rw [if_neg (by omega)]
  rcases h with ⟨h1, h2, h3⟩ | ⟨h1, h2, oI, cu⟩
  · refine ⟨-1, _, _, fun X hX => ?_, fun X hX => ?_, Or.inl ⟨?_, ?_, ?_⟩, cm1, cn1⟩
    · apply xr_x_go
      rw [if_pos h1]
      exact hX
    · apply xr_m_go
      obtain ⟨i1, i2⟩ := a_io_0 (n := w_up n 428 88 (-1)) (k := k) (by rw [w_up_nb (by decide)]; exact h2)
      refine sp_m_isObject i1 ?_
      rw [i2, if_pos rfl]
      exact hX
    · rw [w_up_nb (by decide)]; exact h1
    · rw [w_up_nb (by decide)]; exact h2
    · rw [w_up_eq]
  · have o1 : o_I g (w_up m 357 12 (-1)) (w_up n 428 88 (-1)) := oI.cur cm1 cn1
    have hl := o1.2.2.1.1.2
    have h14 : w_up m 357 12 (-1) 357 14 = 1 := by rw [w_up_nb (by decide)]; exact h1
    have h6 : w_up n 428 88 (-1) 428 6 = 1 := by rw [w_up_nb (by decide)]; exact h2
    by_cases hu : o_u (w_up n 428 88 (-1)) k
    · obtain ⟨i1, i2, i3, i4⟩ := a_io_y h6 hl hu
      obtain ⟨s1, s2⟩ := a_isf_y o1 hu
      obtain ⟨mA, hA⟩ : ∃ mA, mA = w_up (w_up (w_up m 357 12 (-1)) 357 12 0) 357 13 k := ⟨_, rfl⟩
      have cA : d_cm m mA := fun i j q1 q2 => by
        rw [hA]
        unfold w_up
        rw [if_neg (by omega), if_neg (by omega), if_neg (by omega)]
      have oA : o_I g mA (w_up n 428 88 (-1)) := oI.cur cA cn1
      obtain ⟨t1, t2, t3, t4⟩ := a_root oA hu
      obtain ⟨m3, hm3⟩ : ∃ m3, m3 = w_up mA 427 0 (g.1 (w_up n 428 88 (-1) 455 k)) := ⟨_, rfl⟩
      obtain ⟨nA, hnA⟩ : ∃ nA, nA = w_up (w_up (w_up n 428 88 (-1)) 428 88 0) 428 89 k := ⟨_, rfl⟩
      obtain ⟨n3, hn3⟩ : ∃ n3, n3 = w_up nA 471 0 (nA 455 k) := ⟨_, rfl⟩
      have c3 : d_cm m m3 := fun i j q1 q2 => by rw [hm3, w_up_ne q2]; exact cA i j q1 q2
      have e3 : d_cn n n3 := fun i j q1 q2 => by
        rw [hn3, w_up_ne q2, hnA]
        unfold w_up
        rw [if_neg (by omega), if_neg (by omega), if_neg (by omega)]
      have o3 : o_I g m3 n3 := oI.cur c3 e3
      have x12 : m3 357 12 = 0 := by rw [hm3, w_up_ne (by decide), hA, w_up_nb (by decide), w_up_eq]
      have x13 : m3 357 13 = k := by rw [hm3, w_up_ne (by decide), hA, w_up_eq]
      have y88 : n3 428 88 = 0 := by rw [hn3, w_up_ne (by decide), hnA, w_up_nb (by decide), w_up_eq]
      have y89 : n3 428 89 = k := by rw [hn3, w_up_ne (by decide), hnA, w_up_eq]
      have e55 : nA 455 k = w_up n 428 88 (-1) 455 k := by rw [hnA, w_up_ne (by decide), w_up_ne (by decide)]
      have f55 : n3 455 k = w_up n 428 88 (-1) 455 k := by rw [hn3, w_up_ne (by decide)]; exact e55
      have y71 : n3 471 0 = w_up n 428 88 (-1) 455 k := by rw [hn3, w_up_eq]; exact e55
      have x27 : m3 427 0 = g.1 (w_up n 428 88 (-1) 455 k) := by rw [hm3, w_up_eq]
      have u3 : o_u n3 k := by
        obtain ⟨u1, u2, u3⟩ := hu
        refine ⟨u1, ?_, ?_⟩
        · rw [e3 428 60 (by decide) (by decide)]; rw [w_up_nb (by decide)] at u2; exact u2
        · rw [e3 451 k (by omega) (by decide)]; rw [w_up_ne (by decide)] at u3; exact u3
      have f15 : n3 428 15 = w_up n 428 88 (-1) 428 15 := by rw [e3 428 15 (by decide) (by decide), w_up_nb (by decide)]
      have cu3 : d_cu g m3 n3 := by
        refine ⟨by rw [x12, y88], by rw [y88]; decide, fun _ => ⟨by rw [x13, y89], by rw [y89]; exact u3, by rw [y89, y71, f55], fun j q1 q2 => ?_⟩⟩
        rw [y88] at q2
        have : j = 0 := by omega
        rw [this, y71, x27, f15]
        exact ⟨rfl, t3, t4⟩
      have g14 : m3 357 14 = 1 := by rw [c3 _ _ (by decide) (by decide)]; exact h1
      obtain ⟨k1, k2, k3, _⟩ := a_kind o3 g14 cu3 (by rw [y88]; decide)
      refine ⟨f_m_kindHere n3, m3, n3, fun X hX => ?_, fun X hX => ?_, Or.inr ⟨g14, by rw [e3 _ _ (by decide) (by decide)]; exact h2, o3, cu3⟩, c3, e3⟩
      · apply xr_x_go
        rw [if_neg (by omega)]
        refine sp_ta_isFree (d := d + 2) s1 ?_
        rw [s2, if_pos rfl, ← hA]
        refine sp_ta_rootOf (d := d + 2) t1 ?_
        rw [t2, ← hm3]
        refine sp_x_kindHere (d := d) k1 ?_
        rw [k3]
        exact hX
      · apply xr_m_go
        refine sp_m_isObject (d := e) i1 ?_
        rw [i2, if_neg (show ¬ (1 : Int) = 0 by decide), ← hnA, ← hn3]
        refine ⟨⟨i3, i4⟩, sp_m_kindHere (d := e) k2 hX⟩
    · obtain ⟨i1, i2⟩ := a_io_n (k := k) hl (fun z => hu z.2) (Or.inr h6)
      obtain ⟨s1, s2⟩ := a_isf_n o1 hu
      refine ⟨-1, _, _, fun X hX => ?_, fun X hX => ?_, Or.inr ⟨h14, h6, o1, ?_⟩, cm1, cn1⟩
      · apply xr_x_go
        rw [if_neg (by omega)]
        refine sp_ta_isFree (d := d + 2) s1 ?_
        rw [s2, if_neg (by decide)]
        exact hX
      · apply xr_m_go
        refine sp_m_isObject (d := e) i1 ?_
        rw [i2, if_pos rfl]
        exact hX
      · refine ⟨by rw [w_up_eq, w_up_eq], by rw [w_up_eq]; decide, fun z => ?_⟩
        rw [w_up_eq] at z
        omega
theorem a_now (h : d_ac g m n) (h0 : n 428 88 < 0) : f_x_isNowhere m = 1 := by
  unfold f_x_isNowhere
  rcases h with ⟨h1, h2, h3⟩ | ⟨h1, h2, oI, cu⟩
  · rw [if_pos h1]
  · have := cu.1
    rw [if_neg (by omega), if_pos (by omega)]
theorem d_ac.in (h : d_ac g m n) (h0 : 0 ≤ n 428 88) : m 357 14 = 1 ∧ n 428 6 = 1 ∧ o_I g m n ∧ d_cu g m n := by
  rcases h with ⟨h1, h2, h3⟩ | h
  · omega
  · exact h
theorem s_up_ (h : d_ac g m n) : ∃ r m1 n1, (∀ X : Int → w_M → Prop, X r m1 → xc_x_up (d + 2) m X) ∧ (∀ X : Int → w_M → Prop, X r n1 → xc_m_up (e + 1) n X) ∧ d_ac g m1 n1 ∧ d_cm m m1 ∧ d_cn n n1 := by
  by_cases h0 : n 428 88 < 0
  · have nw := a_now h h0
    refine ⟨-1, m, n, fun X hX => ?_, fun X hX => ?_, h, fun _ _ _ _ => rfl, fun _ _ _ _ => rfl⟩
    · apply xr_x_up
      refine sp_x_isNowhere (d := d) ?_
      rw [nw, if_neg (by decide)]
      exact hX
    · apply xr_m_up
      rw [if_pos (by omega)]
      exact hX
  · obtain ⟨h1, h2, oI, cu⟩ := h.in (by omega)
    obtain ⟨a1, a2, a3, a4, a5, a6⟩ := a_at h1 cu (by omega)
    by_cases q : n 428 88 = 0
    · refine ⟨-1, m, n, fun X hX => ?_, fun X hX => ?_, h, fun _ _ _ _ => rfl, fun _ _ _ _ => rfl⟩
      · apply xr_x_up
        refine sp_x_isNowhere (d := d) ?_
        rw [a1, if_pos rfl, a5, if_pos q]
        exact hX
      · apply xr_m_up
        rw [if_pos (by omega)]
        exact hX
    · have cm : d_cm m (w_up m 357 12 (n 428 88 - 1)) := fun i j q1 q2 => by
        unfold w_up
        rw [if_neg (by omega)]
      have cn : d_cn n (w_up n 428 88 (n 428 88 - 1)) := fun i j q1 q2 => by
        unfold w_up
        rw [if_neg (by omega)]
      obtain ⟨c4, c5, c6, c7⟩ := cu.2.2 (by omega)
      refine ⟨n 428 88 - 1, _, _, fun X hX => ?_, fun X hX => ?_, Or.inr ⟨by rw [w_up_nb (by decide)]; exact h1, by rw [w_up_nb (by decide)]; exact h2, oI.cur cm cn, ?_⟩, cm, cn⟩
      · apply xr_x_up
        refine sp_x_isNowhere (d := d) ?_
        rw [a1, if_pos rfl, a5, if_neg q, w_32_id (by omega) (by omega)]
        exact hX
      · apply xr_m_up
        rw [if_neg (by omega), w_32_id (by omega) (by omega)]
        exact hX
      · refine ⟨by rw [w_up_eq, w_up_eq], by rw [w_up_eq]; omega, fun _ => ⟨?_, ?_, ?_, fun j q1 q2 => ?_⟩⟩
        · rw [w_up_nb (by decide), w_up_nb (by decide)]; exact c4
        · rw [w_up_nb (by decide)]
          obtain ⟨u1, u2, u3⟩ := c5
          exact ⟨u1, by rw [w_up_nb (by decide)]; exact u2, by rw [w_up_ne (by decide)]; exact u3⟩
        · rw [w_up_ne (by decide), w_up_ne (by decide), w_up_nb (by decide)]; exact c6
        · rw [w_up_eq] at q2
          rw [w_up_ne (by decide), w_up_ne (by decide), w_up_nb (by decide)]
          exact c7 j q1 (by omega)
/- what stands here -/
theorem s_here (h : d_ac g m n) : ∃ r, (∀ X : Int → w_M → Prop, X r m → xc_x_here (d + 4) w m X) ∧ (∀ X : Int → w_M → Prop, X r n → xc_m_here (e + 2) w n X) := by
  by_cases h0 : n 428 88 < 0
  · have nw := a_now h h0
    refine ⟨-1, fun X hX => ?_, fun X hX => ?_⟩
    · apply xr_x_here
      refine sp_x_isNowhere (d := d + 2) ?_
      rw [nw, if_neg (by decide)]
      exact hX
    · apply xr_m_here
      rw [if_pos h0]
      exact hX
  · obtain ⟨h1, h2, oI, cu⟩ := h.in (by omega)
    obtain ⟨a1, a2, a3, a4, a5, a6⟩ := a_at h1 cu (by omega)
    obtain ⟨b1, b2, b3, b4, b5, b6, b7, nd⟩ := a_nd oI a4
    obtain ⟨k1, k2, k3, k4⟩ := a_kind oI h1 cu (by omega)
    obtain ⟨v, hv⟩ : ∃ v, v = n 471 (n 428 88) := ⟨_, rfl⟩
    rw [← hv] at a3 a4 b1 b2 b3 b4 b5 b7 nd k4
    have gd : ((0 : Int) ≤ v ∧ v < 40000) := ⟨a4.1, b7⟩
    have g88 : (0 : Int) ≤ n 428 88 ∧ n 428 88 < 26 := by omega
    -- ways in
    have inC : ∀ X : Int → w_M → Prop, ¬ w < 0 → ¬ 4 < w → (if w = 0 then X (f_m_kindHere n) m else if w = 1 then (if f_m_kindHere n = 1 then xc_st_oneOf (d + 3) (g.1 v) m X else if f_m_kindHere n = 2 then xc_st_oneOf (d + 3) (g.1 v) m X else if f_m_kindHere n = 3 then xc_st_oneOf (d + 3) (g.1 v) m X else if f_m_kindHere n = 8 then xc_st_oneOf (d + 3) (g.1 v) m X else X 0 m)
        else if w = 2 then (if f_m_kindHere n = 9 then xc_st_twoOf (d + 3) (g.1 v) m X else if f_m_kindHere n < 4 then X 0 m else if 7 < f_m_kindHere n then X 0 m else xc_st_twoOf (d + 3) (g.1 v) m X) else if w = 3 then (if f_m_kindHere n = 8 then xc_st_twoOf (d + 3) (g.1 v) m X else X 0 m)
        else xc_x_keyHere (d + 3) m (fun r m1 => xc_st_letters (d + 3) r m1 (fun r m1 => X (max 0 r) m1))) → xc_x_here (d + 4) w m X := fun X q1 q2 hX => by
      apply xr_x_here
      refine sp_x_isNowhere (d := d + 2) ?_
      rw [a1, if_pos rfl, if_neg q1, if_neg q2]
      refine sp_x_kindHere (d := d) k1 ?_
      refine sp_x_nodeHere (d := d + 1) a2 ?_
      rw [k3, a3]
      exact hX
    by_cases q1 : w < 0
    · refine ⟨-1, fun X hX => ?_, fun X hX => ?_⟩
      · apply xr_x_here
        refine sp_x_isNowhere (d := d + 2) ?_
        rw [a1, if_pos rfl, if_pos q1]
        exact hX
      · apply xr_m_here
        rw [if_neg h0, if_pos q1]
        exact hX
    by_cases q2 : 4 < w
    · refine ⟨-1, fun X hX => ?_, fun X hX => ?_⟩
      · apply xr_x_here
        refine sp_x_isNowhere (d := d + 2) ?_
        rw [a1, if_pos rfl, if_neg q1, if_pos q2]
        exact hX
      · apply xr_m_here
        rw [if_neg h0, if_neg q1, if_pos q2]
        exact hX
    by_cases w0 : w = 0
    · refine ⟨f_m_kindHere n, fun X hX => inC X q1 q2 ?_, fun X hX => ?_⟩
      · rw [if_pos w0]; exact hX
      · apply xr_m_here
        rw [if_neg h0, if_neg q1, if_neg q2, if_pos w0]
        exact ⟨g88, sp_m_kindHere (d := e) k2 hX⟩
    by_cases w1 : w = 1
    · by_cases z : (1 ≤ n 432 v ∧ n 432 v ≤ 3) ∨ n 432 v = 8
      · have one : ∀ X : Int → w_M → Prop, X (n 433 v) m → xc_st_oneOf (d + 3) (g.1 v) m X := fun X hX => sp_st_oneOf (d := d + 2) (by
          rw [b2, nd.2.2.2.2.2.1 z]; exact hX)
        refine ⟨n 433 v, fun X hX => inC X q1 q2 ?_, fun X hX => ?_⟩
        · rw [if_neg w0, if_pos w1]
          refine z_ite (fun _ => one X hX) (fun c1 => z_ite (fun _ => one X hX) (fun c2 => z_ite (fun _ => one X hX) (fun c3 => z_ite (fun _ => one X hX) (fun c4 => ?_))))
          rcases k4 with ⟨e1, e2⟩ | ⟨e1, e2⟩
          · omega
          · omega
        · apply xr_m_here
          rw [if_neg h0, if_neg q1, if_neg q2, if_neg w0, if_pos w1, ← hv]
          refine ⟨g88, gd, z_ite (fun c => ?_) (fun c => ⟨gd, z_ite (fun c2 => ⟨gd, z_ite (fun c3 => ⟨gd, hX⟩) (fun c3 => ?_)⟩) (fun c2 => ⟨gd, hX⟩)⟩)⟩
          · omega
          · omega
      · refine ⟨0, fun X hX => inC X q1 q2 ?_, fun X hX => ?_⟩
        · rw [if_neg w0, if_pos w1]
          have kk : ¬ (f_m_kindHere n = 1 ∨ f_m_kindHere n = 2 ∨ f_m_kindHere n = 3 ∨ f_m_kindHere n = 8) := by
            rcases k4 with ⟨e1, e2⟩ | ⟨e1, e2⟩
            · omega
            · omega
          rw [if_neg (fun u => kk (by omega)), if_neg (fun u => kk (by omega)), if_neg (fun u => kk (by omega)), if_neg (fun u => kk (by omega))]
          exact hX
        · apply xr_m_here
          rw [if_neg h0, if_neg q1, if_neg q2, if_neg w0, if_pos w1, ← hv]
          refine ⟨g88, gd, z_ite (fun c => ⟨gd, z_ite (fun c3 => ⟨gd, ?_⟩) (fun c3 => hX)⟩) (fun c => ⟨gd, z_ite (fun c2 => ⟨gd, z_ite (fun c3 => ⟨gd, ?_⟩) (fun c3 => hX)⟩) (fun c2 => ⟨gd, ?_⟩)⟩)⟩
          · omega
          · omega
          · omega
    by_cases w2 : w = 2
    · by_cases z : 4 ≤ n 432 v ∧ n 432 v ≤ 7
      · have e35 : m 362 (g.1 v) = n 435 v := by
          by_cases z2 : n 432 v = 4 ∨ n 432 v = 5
          · exact (nd.2.2.2.2.2.2.2.1 z2).1
          · exact (nd.2.2.2.2.2.2.2.2.1 (by omega)).1
        have two : ∀ X : Int → w_M → Prop, X (n 435 v) m → xc_st_twoOf (d + 3) (g.1 v) m X := fun X hX => sp_st_twoOf (d := d + 2) (by rw [b3, e35]; exact hX)
        refine ⟨n 435 v, fun X hX => inC X q1 q2 ?_, fun X hX => ?_⟩
        · rw [if_neg w0, if_neg w1, if_pos w2]
          refine z_ite (fun _ => two X hX) (fun c1 => z_ite (fun c2 => ?_) (fun c2 => z_ite (fun c3 => ?_) (fun c3 => two X hX)))
          · rcases k4 with ⟨e1, e2⟩ | ⟨e1, e2⟩
            · omega
            · omega
          · rcases k4 with ⟨e1, e2⟩ | ⟨e1, e2⟩
            · omega
            · omega
        · apply xr_m_here
          rw [if_neg h0, if_neg q1, if_neg q2, if_neg w0, if_neg w1, if_pos w2, ← hv]
          refine ⟨g88, gd, z_ite (fun c => ?_) (fun c => ⟨gd, z_ite (fun c2 => ?_) (fun c2 => ⟨gd, hX⟩)⟩)⟩
          · omega
          · omega
      · refine ⟨0, fun X hX => inC X q1 q2 ?_, fun X hX => ?_⟩
        · rw [if_neg w0, if_neg w1, if_pos w2]
          refine z_ite (fun c1 => ?_) (fun c1 => z_ite (fun c2 => hX) (fun c2 => z_ite (fun c3 => hX) (fun c3 => ?_)))
          · rcases k4 with ⟨e1, e2⟩ | ⟨e1, e2⟩
            · omega
            · omega
          · rcases k4 with ⟨e1, e2⟩ | ⟨e1, e2⟩
            · omega
            · omega
        · apply xr_m_here
          rw [if_neg h0, if_neg q1, if_neg q2, if_neg w0, if_neg w1, if_pos w2, ← hv]
          refine ⟨g88, gd, z_ite (fun c => hX) (fun c => ⟨gd, z_ite (fun c2 => hX) (fun c2 => ⟨gd, ?_⟩)⟩)⟩
          omega
    by_cases w3 : w = 3
    · by_cases z : n 432 v = 8
      · have eK : f_m_kindHere n = 8 := by
          rcases k4 with ⟨e1, e2⟩ | ⟨e1, e2⟩
          · omega
          · omega
        refine ⟨n 434 v, fun X hX => inC X q1 q2 ?_, fun X hX => ?_⟩
        · rw [if_neg w0, if_neg w1, if_neg w2, if_pos w3, if_pos eK]
          exact sp_st_twoOf (d := d + 2) (by rw [b3, (nd.2.2.2.2.2.2.1 z).1]; exact hX)
        · apply xr_m_here
          rw [if_neg h0, if_neg q1, if_neg q2, if_neg w0, if_neg w1, if_neg w2, if_pos w3, ← hv, if_pos z]
          exact ⟨g88, gd, gd, hX⟩
      · have eK : ¬ f_m_kindHere n = 8 := by
          rcases k4 with ⟨e1, e2⟩ | ⟨e1, e2⟩
          · omega
          · omega
        refine ⟨0, fun X hX => inC X q1 q2 ?_, fun X hX => ?_⟩
        · rw [if_neg w0, if_neg w1, if_neg w2, if_pos w3, if_neg eK]
          exact hX
        · apply xr_m_here
          rw [if_neg h0, if_neg q1, if_neg q2, if_neg w0, if_neg w1, if_neg w2, if_pos w3, ← hv, if_neg z]
          exact ⟨g88, gd, hX⟩
    · have ky := nd.2.2.2.2.2.2.2.2.2.2
      by_cases q : n 428 88 = 0
      · refine ⟨0, fun X hX => inC X q1 q2 ?_, fun X hX => ?_⟩
        · rw [if_neg w0, if_neg w1, if_neg w2, if_neg w3]
          refine sp_x_keyHere (d := d + 1) ?_ ?_
          · unfold k_x_keyHere
            rw [a1, if_pos rfl, a5, if_pos q]
            exact trivial
          · unfold f_x_keyHere
            rw [a1, if_pos rfl, a5, if_pos q]
            refine sp_st_letters (d := d + 2) ?_
            unfold f_st_letters
            rw [if_pos (by decide)]
            exact hX
        · apply xr_m_here
          rw [if_neg h0, if_neg q1, if_neg q2, if_neg w0, if_neg w1, if_neg w2, if_neg w3, if_pos q]
          exact ⟨g88, hX⟩
      · have eR : ∀ X : Int → w_M → Prop, X (n 439 v) n → xc_m_here (e + 2) w n X := fun X hX => by
          apply xr_m_here
          rw [if_neg h0, if_neg q1, if_neg q2, if_neg w0, if_neg w1, if_neg w2, if_neg w3, if_neg q, ← hv]
          exact ⟨g88, gd, hX⟩
        refine ⟨n 439 v, fun X hX => inC X q1 q2 ?_, eR⟩
        rw [if_neg w0, if_neg w1, if_neg w2, if_neg w3]
        refine sp_x_keyHere (d := d + 1) ?_ ?_
        · unfold k_x_keyHere
          rw [a1, if_pos rfl, a5, if_neg q]
          omega
        · have ek : f_x_keyHere m = m 364 (g.1 v) := by
            unfold f_x_keyHere
            unfold f_x_nodeHere at a3
            rw [a1, if_pos rfl] at a3
            rw [a1, if_pos rfl, if_neg (by omega), a3, b4]
          rw [ek]
          refine sp_st_letters (d := d + 2) ?_
          unfold f_st_letters
          rcases ky with ⟨c1, c2⟩ | ⟨c1, c2, c3, c4, c5⟩
          · rw [c1, if_pos (by decide), show max (0 : Int) (-1) = 0 by decide]
            rw [c2] at hX
            exact hX
          · rw [if_neg (by omega), if_pos c2, if_pos (by omega), if_pos c3, c4, show max 0 (n 439 v) = n 439 v by have := c5.1; omega]
            exact hX
end AD
