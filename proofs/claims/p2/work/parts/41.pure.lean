/-! ===== methods without loops that change nothing, as functions (printed by program) ===== -/
set_option maxRecDepth 100000
/-- PaperHouse$Filters.guess(IIII)I -/
noncomputable def f_fi_guess (m : w_M) (l0 l1 l2 l3 : Int) : Int := if l0 = 1 then (l1) else (if l0 = 2 then (l2) else (if l0 = 3 then (Int.tdiv (w_32 (l1 + l2)) 2) else (if l0 = 4 then (if (if w_32 (l1 - l3) < 0 then w_32 (-(w_32 (l1 - l3))) else w_32 (l1 - l3)) < (if w_32 (l2 - l3) < 0 then w_32 (-(w_32 (l2 - l3))) else w_32 (l2 - l3)) then (if (if w_32 ((w_32 (l1 + l2)) - (w_32 (2 * l3))) < 0 then w_32 (-(w_32 ((w_32 (l1 + l2)) - (w_32 (2 * l3))))) else w_32 ((w_32 (l1 + l2)) - (w_32 (2 * l3)))) < (if w_32 (l1 - l3) < 0 then w_32 (-(w_32 (l1 - l3))) else w_32 (l1 - l3)) then (l3) else (l2)) else (if (if w_32 ((w_32 (l1 + l2)) - (w_32 (2 * l3))) < 0 then w_32 (-(w_32 ((w_32 (l1 + l2)) - (w_32 (2 * l3))))) else w_32 ((w_32 (l1 + l2)) - (w_32 (2 * l3)))) < (if w_32 (l2 - l3) < 0 then w_32 (-(w_32 (l2 - l3))) else w_32 (l2 - l3)) then (if (if w_32 ((w_32 (l1 + l2)) - (w_32 (2 * l3))) < 0 then w_32 (-(w_32 ((w_32 (l1 + l2)) - (w_32 (2 * l3))))) else w_32 ((w_32 (l1 + l2)) - (w_32 (2 * l3)))) < (if w_32 (l1 - l3) < 0 then w_32 (-(w_32 (l1 - l3))) else w_32 (l1 - l3)) then (l3) else (l2)) else (l1))) else (0))))
theorem sp_fi_guess {d : Nat} {l0 l1 l2 l3 : Int} {m : w_M} {Q : Int → w_M → Prop} (h : Q (f_fi_guess m l0 l1 l2 l3) m) : xc_fi_guess (d + 1) l0 l1 l2 l3 m Q := by
  apply xr_fi_guess
  unfold f_fi_guess at h
  repeat' first | split | apply And.intro
  all_goals first | (simp_all only [↓reduceIte, and_self, and_true, true_and]; done) | omega | (simp_all; done) | grind
/-- PaperHouse$Loader.clip(I)I -/
noncomputable def f_lo_clip (m : w_M) (l1 : Int) : Int := if l1 < 0 then (m 394 1) else (if (m 394 1) < l1 then (m 394 1) else (l1))
theorem sp_lo_clip {d : Nat} {l1 : Int} {m : w_M} {Q : Int → w_M → Prop} (h : Q (f_lo_clip m l1) m) : xc_lo_clip (d + 1) l1 m Q := by
  apply xr_lo_clip
  unfold f_lo_clip at h
  repeat' first | split | apply And.intro
  all_goals first | (simp_all only [↓reduceIte, and_self, and_true, true_and]; done) | omega | (simp_all; done) | grind
/-- PaperHouse$Loader.isWaiting()Z -/
noncomputable def f_lo_isWaiting (m : w_M) : Int := if 0 < (m 394 9) then (1) else (0)
theorem sp_lo_isWaiting {d : Nat} {m : w_M} {Q : Int → w_M → Prop} (h : Q (f_lo_isWaiting m ) m) : xc_lo_isWaiting (d + 1)  m Q := by
  apply xr_lo_isWaiting
  unfold f_lo_isWaiting at h
  repeat' first | split | apply And.intro
  all_goals first | (simp_all only [↓reduceIte, and_self, and_true, true_and]; done) | omega | (simp_all; done) | grind
/-- PaperHouse$Painter.glyphAt(II)I -/
noncomputable def f_pa_glyphAt (m : w_M) (l1 l2 : Int) : Int := if l1 < 0 then ((-1)) else (if l1 < (m 404 18) then (if l2 < 0 then ((-1)) else (if l2 < 5 then (if (w_32 ((w_32 (l1 * 5)) + l2)) < 7500 then (m 416 (w_32 ((w_32 (l1 * 5)) + l2))) else ((-1))) else ((-1)))) else ((-1)))
def k_pa_glyphAt (m : w_M) (l1 l2 : Int) : Prop := if l1 < 0 then (True) else (if l1 < (m 404 18) then (if l2 < 0 then (True) else (if l2 < 5 then (if (w_32 ((w_32 (l1 * 5)) + l2)) < 7500 then (((0 : Int) ≤ (w_32 ((w_32 (l1 * 5)) + l2)) ∧ (w_32 ((w_32 (l1 * 5)) + l2)) < 7500)) else (True)) else (True))) else (True))
theorem sp_pa_glyphAt {d : Nat} {l1 l2 : Int} {m : w_M} {Q : Int → w_M → Prop} (hg : k_pa_glyphAt m l1 l2) (h : Q (f_pa_glyphAt m l1 l2) m) : xc_pa_glyphAt (d + 1) l1 l2 m Q := by
  apply xr_pa_glyphAt
  unfold f_pa_glyphAt at h
  unfold k_pa_glyphAt at hg
  repeat' first | split | apply And.intro
  all_goals first | (simp_all only [↓reduceIte, and_self, and_true, true_and]; done) | omega | (simp_all; done) | grind
/-- PaperHouse$Painter.operand(I)I -/
noncomputable def f_pa_operand (m : w_M) (l1 : Int) : Int := if l1 < 0 then ((-1)) else (if l1 < (m 404 14) then (if l1 < 40 then (m 415 l1) else ((-1))) else ((-1)))
theorem sp_pa_operand {d : Nat} {l1 : Int} {m : w_M} {Q : Int → w_M → Prop} (h : Q (f_pa_operand m l1) m) : xc_pa_operand (d + 1) l1 m Q := by
  apply xr_pa_operand
  unfold f_pa_operand at h
  repeat' first | split | apply And.intro
  all_goals first | (simp_all only [↓reduceIte, and_self, and_true, true_and]; done) | omega | (simp_all; done) | grind
/-- PaperHouse$Painter.times(JJ)J -/
noncomputable def f_pa_times (m : w_M) (l0 l2 : Int) : Int := (w_64 ((w_64 (l0 * l2)) + 32768)) / 65536
theorem sp_pa_times {d : Nat} {l0 l2 : Int} {m : w_M} {Q : Int → w_M → Prop} (h : Q (f_pa_times m l0 l2) m) : xc_pa_times (d + 1) l0 l2 m Q := by
  apply xr_pa_times
  unfold f_pa_times at h
  repeat' first | split | apply And.intro
  all_goals first | (simp_all only [↓reduceIte, and_self, and_true, true_and]; done) | omega | (simp_all; done) | grind
/-- PaperHouse$Painter.wrong()I -/
noncomputable def f_pa_wrong (m : w_M) : Int := m 405 6
theorem sp_pa_wrong {d : Nat} {m : w_M} {Q : Int → w_M → Prop} (h : Q (f_pa_wrong m ) m) : xc_pa_wrong (d + 1)  m Q := by
  apply xr_pa_wrong
  unfold f_pa_wrong at h
  repeat' first | split | apply And.intro
  all_goals first | (simp_all only [↓reduceIte, and_self, and_true, true_and]; done) | omega | (simp_all; done) | grind
/-- PaperHouse$Painter.wrongAt()I -/
noncomputable def f_pa_wrongAt (m : w_M) : Int := m 405 7
theorem sp_pa_wrongAt {d : Nat} {m : w_M} {Q : Int → w_M → Prop} (h : Q (f_pa_wrongAt m ) m) : xc_pa_wrongAt (d + 1)  m Q := by
  apply xr_pa_wrongAt
  unfold f_pa_wrongAt at h
  repeat' first | split | apply And.intro
  all_goals first | (simp_all only [↓reduceIte, and_self, and_true, true_and]; done) | omega | (simp_all; done) | grind
/-- PaperHouse$Parser.escaped(I)I -/
noncomputable def f_ps_escaped (m : w_M) (l0 : Int) : Int := if l0 = 40 then (l0) else (if l0 = 41 then (l0) else (if l0 = 92 then (l0) else (if l0 = 98 then (8) else (if l0 = 102 then (12) else (if l0 = 110 then (10) else (if l0 = 114 then (13) else (if l0 = 116 then (9) else ((-1)))))))))
theorem sp_ps_escaped {d : Nat} {l0 : Int} {m : w_M} {Q : Int → w_M → Prop} (h : Q (f_ps_escaped m l0) m) : xc_ps_escaped (d + 1) l0 m Q := by
  apply xr_ps_escaped
  unfold f_ps_escaped at h
  repeat' first | split | apply And.intro
  all_goals first | (simp_all only [↓reduceIte, and_self, and_true, true_and]; done) | omega | (simp_all; done) | grind
/-- PaperHouse$Parser.isDigit(I)Z -/
noncomputable def f_ps_isDigit (m : w_M) (l0 : Int) : Int := if l0 < 48 then (0) else (if 57 < l0 then (0) else (1))
theorem sp_ps_isDigit {d : Nat} {l0 : Int} {m : w_M} {Q : Int → w_M → Prop} (h : Q (f_ps_isDigit m l0) m) : xc_ps_isDigit (d + 1) l0 m Q := by
  apply xr_ps_isDigit
  unfold f_ps_isDigit at h
  repeat' first | split | apply And.intro
  all_goals first | (simp_all only [↓reduceIte, and_self, and_true, true_and]; done) | omega | (simp_all; done) | grind
/-- PaperHouse$Parser.isWhite(I)Z -/
noncomputable def f_ps_isWhite (m : w_M) (l0 : Int) : Int := if l0 = 32 then (1) else (if l0 = 10 then (1) else (if l0 = 13 then (1) else (if l0 = 9 then (1) else (if l0 = 12 then (1) else (if l0 = 0 then (1) else (0))))))
theorem sp_ps_isWhite {d : Nat} {l0 : Int} {m : w_M} {Q : Int → w_M → Prop} (h : Q (f_ps_isWhite m l0) m) : xc_ps_isWhite (d + 1) l0 m Q := by
  apply xr_ps_isWhite
  unfold f_ps_isWhite at h
  repeat' first | split | apply And.intro
  all_goals first | (simp_all only [↓reduceIte, and_self, and_true, true_and]; done) | omega | (simp_all; done) | grind
/-- PaperHouse$Sections.newest()I -/
noncomputable def f_se_newest (m : w_M) : Int := if 0 < (m 391 6) then (m 392 0) else ((-1))
theorem sp_se_newest {d : Nat} {m : w_M} {Q : Int → w_M → Prop} (h : Q (f_se_newest m ) m) : xc_se_newest (d + 1)  m Q := by
  apply xr_se_newest
  unfold f_se_newest at h
  repeat' first | split | apply And.intro
  all_goals first | (simp_all only [↓reduceIte, and_self, and_true, true_and]; done) | omega | (simp_all; done) | grind
/-- PaperHouse$Store.firstPart(I)I -/
noncomputable def f_st_firstPart (m : w_M) (l1 : Int) : Int := if l1 < 0 then ((-1)) else (if l1 < (m 359 6) then (if l1 < 16564 then (if (m 360 l1) = 6 then (m 361 l1) else (if (m 360 l1) = 7 then (m 361 l1) else ((-1)))) else ((-1))) else ((-1)))
theorem sp_st_firstPart {d : Nat} {l1 : Int} {m : w_M} {Q : Int → w_M → Prop} (h : Q (f_st_firstPart m l1) m) : xc_st_firstPart (d + 1) l1 m Q := by
  apply xr_st_firstPart
  unfold f_st_firstPart at h
  repeat' first | split | apply And.intro
  all_goals first | (simp_all only [↓reduceIte, and_self, and_true, true_and]; done) | omega | (simp_all; done) | grind
/-- PaperHouse$Store.hasRoom()Z -/
noncomputable def f_st_hasRoom (m : w_M) : Int := if 16564 < (w_32 ((w_32 ((m 359 6) + 300)) + 6000)) then (0) else (1)
theorem sp_st_hasRoom {d : Nat} {m : w_M} {Q : Int → w_M → Prop} (h : Q (f_st_hasRoom m ) m) : xc_st_hasRoom (d + 1)  m Q := by
  apply xr_st_hasRoom
  unfold f_st_hasRoom at h
  repeat' first | split | apply And.intro
  all_goals first | (simp_all only [↓reduceIte, and_self, and_true, true_and]; done) | omega | (simp_all; done) | grind
/-- PaperHouse$Store.holds(I)Z -/
noncomputable def f_st_holds (m : w_M) (l1 : Int) : Int := if l1 < 0 then (0) else (if l1 < (m 359 6) then (if l1 < 16564 then (1) else (0)) else (0))
theorem sp_st_holds {d : Nat} {l1 : Int} {m : w_M} {Q : Int → w_M → Prop} (h : Q (f_st_holds m l1) m) : xc_st_holds (d + 1) l1 m Q := by
  apply xr_st_holds
  unfold f_st_holds at h
  repeat' first | split | apply And.intro
  all_goals first | (simp_all only [↓reduceIte, and_self, and_true, true_and]; done) | omega | (simp_all; done) | grind
/-- PaperHouse$Store.infoPlace(I)I -/
noncomputable def f_st_infoPlace (m : w_M) (l1 : Int) : Int := w_32 (512 + (w_32 (l1 * 2000)))
theorem sp_st_infoPlace {d : Nat} {l1 : Int} {m : w_M} {Q : Int → w_M → Prop} (h : Q (f_st_infoPlace m l1) m) : xc_st_infoPlace (d + 1) l1 m Q := by
  apply xr_st_infoPlace
  unfold f_st_infoPlace at h
  repeat' first | split | apply And.intro
  all_goals first | (simp_all only [↓reduceIte, and_self, and_true, true_and]; done) | omega | (simp_all; done) | grind
/-- PaperHouse$Store.keyOf(I)I -/
noncomputable def f_st_keyOf (m : w_M) (l1 : Int) : Int := if l1 < 0 then ((-1)) else (if l1 < (m 359 6) then (if l1 < 16564 then (m 364 l1) else ((-1))) else ((-1)))
theorem sp_st_keyOf {d : Nat} {l1 : Int} {m : w_M} {Q : Int → w_M → Prop} (h : Q (f_st_keyOf m l1) m) : xc_st_keyOf (d + 1) l1 m Q := by
  apply xr_st_keyOf
  unfold f_st_keyOf at h
  repeat' first | split | apply And.intro
  all_goals first | (simp_all only [↓reduceIte, and_self, and_true, true_and]; done) | omega | (simp_all; done) | grind
/-- PaperHouse$Store.kindOf(I)I -/
noncomputable def f_st_kindOf (m : w_M) (l1 : Int) : Int := if l1 < 0 then ((-1)) else (if l1 < (m 359 6) then (if l1 < 16564 then (m 360 l1) else ((-1))) else ((-1)))
theorem sp_st_kindOf {d : Nat} {l1 : Int} {m : w_M} {Q : Int → w_M → Prop} (h : Q (f_st_kindOf m l1) m) : xc_st_kindOf (d + 1) l1 m Q := by
  apply xr_st_kindOf
  unfold f_st_kindOf at h
  repeat' first | split | apply And.intro
  all_goals first | (simp_all only [↓reduceIte, and_self, and_true, true_and]; done) | omega | (simp_all; done) | grind
/-- PaperHouse$Store.letters(I)I -/
noncomputable def f_st_letters (m : w_M) (l1 : Int) : Int := if l1 < 0 then ((-1)) else (if l1 < (m 359 6) then (if l1 < 16564 then (if (m 360 l1) = 4 then (m 362 l1) else (if (m 360 l1) = 5 then (m 362 l1) else ((-1)))) else ((-1))) else ((-1)))
theorem sp_st_letters {d : Nat} {l1 : Int} {m : w_M} {Q : Int → w_M → Prop} (h : Q (f_st_letters m l1) m) : xc_st_letters (d + 1) l1 m Q := by
  apply xr_st_letters
  unfold f_st_letters at h
  repeat' first | split | apply And.intro
  all_goals first | (simp_all only [↓reduceIte, and_self, and_true, true_and]; done) | omega | (simp_all; done) | grind
/-- PaperHouse$Store.nextOf(I)I -/
noncomputable def f_st_nextOf (m : w_M) (l1 : Int) : Int := if l1 < 0 then ((-1)) else (if l1 < (m 359 6) then (if l1 < 16564 then (m 363 l1) else ((-1))) else ((-1)))
theorem sp_st_nextOf {d : Nat} {l1 : Int} {m : w_M} {Q : Int → w_M → Prop} (h : Q (f_st_nextOf m l1) m) : xc_st_nextOf (d + 1) l1 m Q := by
  apply xr_st_nextOf
  unfold f_st_nextOf at h
  repeat' first | split | apply And.intro
  all_goals first | (simp_all only [↓reduceIte, and_self, and_true, true_and]; done) | omega | (simp_all; done) | grind
/-- PaperHouse$Store.oneOf(I)I -/
noncomputable def f_st_oneOf (m : w_M) (l1 : Int) : Int := if l1 < 0 then (0) else (if l1 < (m 359 6) then (if l1 < 16564 then (m 361 l1) else (0)) else (0))
theorem sp_st_oneOf {d : Nat} {l1 : Int} {m : w_M} {Q : Int → w_M → Prop} (h : Q (f_st_oneOf m l1) m) : xc_st_oneOf (d + 1) l1 m Q := by
  apply xr_st_oneOf
  unfold f_st_oneOf at h
  repeat' first | split | apply And.intro
  all_goals first | (simp_all only [↓reduceIte, and_self, and_true, true_and]; done) | omega | (simp_all; done) | grind
/-- PaperHouse$Store.parts(I)I -/
noncomputable def f_st_parts (m : w_M) (l1 : Int) : Int := if l1 < 0 then (0) else (if l1 < (m 359 6) then (if l1 < 16564 then (if (m 360 l1) = 6 then (m 362 l1) else (if (m 360 l1) = 7 then (m 362 l1) else (0))) else (0)) else (0))
theorem sp_st_parts {d : Nat} {l1 : Int} {m : w_M} {Q : Int → w_M → Prop} (h : Q (f_st_parts m l1) m) : xc_st_parts (d + 1) l1 m Q := by
  apply xr_st_parts
  unfold f_st_parts at h
  repeat' first | split | apply And.intro
  all_goals first | (simp_all only [↓reduceIte, and_self, and_true, true_and]; done) | omega | (simp_all; done) | grind
/-- PaperHouse$Store.twoOf(I)I -/
noncomputable def f_st_twoOf (m : w_M) (l1 : Int) : Int := if l1 < 0 then (0) else (if l1 < (m 359 6) then (if l1 < 16564 then (m 362 l1) else (0)) else (0))
theorem sp_st_twoOf {d : Nat} {l1 : Int} {m : w_M} {Q : Int → w_M → Prop} (h : Q (f_st_twoOf m l1) m) : xc_st_twoOf (d + 1) l1 m Q := by
  apply xr_st_twoOf
  unfold f_st_twoOf at h
  repeat' first | split | apply And.intro
  all_goals first | (simp_all only [↓reduceIte, and_self, and_true, true_and]; done) | omega | (simp_all; done) | grind
/-- PaperHouse$Store.units(I)I -/
noncomputable def f_st_units (m : w_M) (l1 : Int) : Int := if (f_st_kindOf m l1) = 3 then (f_st_oneOf m l1) else (w_32 ((f_st_oneOf m l1) * 65536))
theorem sp_st_units {d : Nat} {l1 : Int} {m : w_M} {Q : Int → w_M → Prop} (h : Q (f_st_units m l1) m) : xc_st_units (d + 2) l1 m Q := by
  apply xr_st_units
  unfold f_st_units at h
  repeat' first | refine sp_st_kindOf ?_ | refine sp_st_oneOf ?_ | split | apply And.intro
  all_goals first | (simp_all only [↓reduceIte, and_self, and_true, true_and]; done) | omega | (simp_all; done) | grind
/-- PaperHouse$Table.fits(I)Z -/
noncomputable def f_ta_fits (m : w_M) (l1 : Int) : Int := if l1 < 0 then (0) else (if 40000 < (w_32 ((m 366 10) + l1)) then (0) else (1))
theorem sp_ta_fits {d : Nat} {l1 : Int} {m : w_M} {Q : Int → w_M → Prop} (h : Q (f_ta_fits m l1) m) : xc_ta_fits (d + 1) l1 m Q := by
  apply xr_ta_fits
  unfold f_ta_fits at h
  repeat' first | split | apply And.intro
  all_goals first | (simp_all only [↓reduceIte, and_self, and_true, true_and]; done) | omega | (simp_all; done) | grind
/-- PaperHouse$Table.isFree(I)Z -/
noncomputable def f_ta_isFree (m : w_M) (l1 : Int) : Int := if 0 < l1 then (if l1 < (m 366 11) then (if l1 < 200 then (if (m 367 l1) = 1 then (1) else (0)) else (1)) else (1)) else (1)
def k_ta_isFree (m : w_M) (l1 : Int) : Prop := if 0 < l1 then (if l1 < (m 366 11) then (if l1 < 200 then (((0 : Int) ≤ l1 ∧ l1 < 200)) else (True)) else (True)) else (True)
theorem sp_ta_isFree {d : Nat} {l1 : Int} {m : w_M} {Q : Int → w_M → Prop} (hg : k_ta_isFree m l1) (h : Q (f_ta_isFree m l1) m) : xc_ta_isFree (d + 1) l1 m Q := by
  apply xr_ta_isFree
  unfold f_ta_isFree at h
  unfold k_ta_isFree at hg
  repeat' first | split | apply And.intro
  all_goals first | (simp_all only [↓reduceIte, and_self, and_true, true_and]; done) | omega | (simp_all; done) | grind
/-- PaperHouse$Table.isStream(I)Z -/
noncomputable def f_ta_isStream (m : w_M) (l1 : Int) : Int := if 0 < l1 then (if l1 < (m 366 11) then (if l1 < 200 then (if (m 367 l1) = 1 then (0) else (if (m 371 l1) < 0 then (0) else (1))) else (0)) else (0)) else (0)
def k_ta_isStream (m : w_M) (l1 : Int) : Prop := if 0 < l1 then (if l1 < (m 366 11) then (if l1 < 200 then (((0 : Int) ≤ l1 ∧ l1 < 200) ∧ (if (m 367 l1) = 1 then (True) else (((0 : Int) ≤ l1 ∧ l1 < 200)))) else (True)) else (True)) else (True)
theorem sp_ta_isStream {d : Nat} {l1 : Int} {m : w_M} {Q : Int → w_M → Prop} (hg : k_ta_isStream m l1) (h : Q (f_ta_isStream m l1) m) : xc_ta_isStream (d + 1) l1 m Q := by
  apply xr_ta_isStream
  unfold f_ta_isStream at h
  unfold k_ta_isStream at hg
  repeat' first | split | apply And.intro
  all_goals first | (simp_all only [↓reduceIte, and_self, and_true, true_and]; done) | omega | (simp_all; done) | grind
/-- PaperHouse$Table.lengthOf(I)I -/
noncomputable def f_ta_lengthOf (m : w_M) (l1 : Int) : Int := if (f_ta_isStream m l1) = 0 then (0) else (m 372 l1)
def k_ta_lengthOf (m : w_M) (l1 : Int) : Prop := k_ta_isStream m l1 ∧ (if (f_ta_isStream m l1) = 0 then (True) else (((0 : Int) ≤ l1 ∧ l1 < 200)))
theorem sp_ta_lengthOf {d : Nat} {l1 : Int} {m : w_M} {Q : Int → w_M → Prop} (hg : k_ta_lengthOf m l1) (h : Q (f_ta_lengthOf m l1) m) : xc_ta_lengthOf (d + 2) l1 m Q := by
  apply xr_ta_lengthOf
  unfold f_ta_lengthOf at h
  unfold k_ta_lengthOf at hg
  repeat' first | refine sp_ta_isStream (by first | (simp_all only [↓reduceIte, and_self, and_true, true_and]; done) | grind) ?_ | split | apply And.intro
  all_goals first | (simp_all only [↓reduceIte, and_self, and_true, true_and]; done) | omega | (simp_all; done) | grind
/-- PaperHouse$Table.placeOf(I)I -/
noncomputable def f_ta_placeOf (m : w_M) (l1 : Int) : Int := if (f_ta_isFree m l1) = 0 then (m 368 l1) else (0)
def k_ta_placeOf (m : w_M) (l1 : Int) : Prop := k_ta_isFree m l1 ∧ (if (f_ta_isFree m l1) = 0 then (((0 : Int) ≤ l1 ∧ l1 < 200)) else (True))
theorem sp_ta_placeOf {d : Nat} {l1 : Int} {m : w_M} {Q : Int → w_M → Prop} (hg : k_ta_placeOf m l1) (h : Q (f_ta_placeOf m l1) m) : xc_ta_placeOf (d + 2) l1 m Q := by
  apply xr_ta_placeOf
  unfold f_ta_placeOf at h
  unfold k_ta_placeOf at hg
  repeat' first | refine sp_ta_isFree (by first | (simp_all only [↓reduceIte, and_self, and_true, true_and]; done) | grind) ?_ | split | apply And.intro
  all_goals first | (simp_all only [↓reduceIte, and_self, and_true, true_and]; done) | omega | (simp_all; done) | grind
/-- PaperHouse$Table.rootOf(I)I -/
noncomputable def f_ta_rootOf (m : w_M) (l1 : Int) : Int := if 0 < l1 then (if l1 < (m 366 11) then (if l1 < 200 then (if (m 367 l1) = 1 then ((-1)) else (m 370 l1)) else ((-1))) else ((-1))) else ((-1))
def k_ta_rootOf (m : w_M) (l1 : Int) : Prop := if 0 < l1 then (if l1 < (m 366 11) then (if l1 < 200 then (((0 : Int) ≤ l1 ∧ l1 < 200) ∧ (if (m 367 l1) = 1 then (True) else (((0 : Int) ≤ l1 ∧ l1 < 200)))) else (True)) else (True)) else (True)
theorem sp_ta_rootOf {d : Nat} {l1 : Int} {m : w_M} {Q : Int → w_M → Prop} (hg : k_ta_rootOf m l1) (h : Q (f_ta_rootOf m l1) m) : xc_ta_rootOf (d + 1) l1 m Q := by
  apply xr_ta_rootOf
  unfold f_ta_rootOf at h
  unfold k_ta_rootOf at hg
  repeat' first | split | apply And.intro
  all_goals first | (simp_all only [↓reduceIte, and_self, and_true, true_and]; done) | omega | (simp_all; done) | grind
/-- PaperHouse$Tree.aboveOf(I)I -/
noncomputable def f_tr_aboveOf (m : w_M) (l1 : Int) : Int := if l1 < 0 then (0) else (if l1 < 200 then (m 401 l1) else (0))
theorem sp_tr_aboveOf {d : Nat} {l1 : Int} {m : w_M} {Q : Int → w_M → Prop} (h : Q (f_tr_aboveOf m l1) m) : xc_tr_aboveOf (d + 1) l1 m Q := by
  apply xr_tr_aboveOf
  unfold f_tr_aboveOf at h
  repeat' first | split | apply And.intro
  all_goals first | (simp_all only [↓reduceIte, and_self, and_true, true_and]; done) | omega | (simp_all; done) | grind
/-- PaperHouse$Tree.has(I)Z -/
noncomputable def f_tr_has (m : w_M) (l1 : Int) : Int := if l1 < 0 then (0) else (if l1 < (m 399 7) then (if l1 < 60 then (1) else (0)) else (0))
theorem sp_tr_has {d : Nat} {l1 : Int} {m : w_M} {Q : Int → w_M → Prop} (h : Q (f_tr_has m l1) m) : xc_tr_has (d + 1) l1 m Q := by
  apply xr_tr_has
  unfold f_tr_has at h
  repeat' first | split | apply And.intro
  all_goals first | (simp_all only [↓reduceIte, and_self, and_true, true_and]; done) | omega | (simp_all; done) | grind
/-- PaperHouse$Tree.leafAt(I)I -/
noncomputable def f_tr_leafAt (m : w_M) (l1 : Int) : Int := if (f_tr_has m l1) = 0 then (0) else (m 400 l1)
def k_tr_leafAt (m : w_M) (l1 : Int) : Prop := if (f_tr_has m l1) = 0 then (True) else (((0 : Int) ≤ l1 ∧ l1 < 60))
theorem sp_tr_leafAt {d : Nat} {l1 : Int} {m : w_M} {Q : Int → w_M → Prop} (hg : k_tr_leafAt m l1) (h : Q (f_tr_leafAt m l1) m) : xc_tr_leafAt (d + 2) l1 m Q := by
  apply xr_tr_leafAt
  unfold f_tr_leafAt at h
  unfold k_tr_leafAt at hg
  repeat' first | refine sp_tr_has ?_ | split | apply And.intro
  all_goals first | (simp_all only [↓reduceIte, and_self, and_true, true_and]; done) | omega | (simp_all; done) | grind
/-- PaperHouse$Writer.byteAt(I)I -/
noncomputable def f_wr_byteAt (m : w_M) (l1 : Int) : Int := if l1 < 0 then ((-1)) else (if l1 < (m 418 3) then (if l1 < 30000 then ((m 419 l1) % 256) else ((-1))) else ((-1)))
theorem sp_wr_byteAt {d : Nat} {l1 : Int} {m : w_M} {Q : Int → w_M → Prop} (h : Q (f_wr_byteAt m l1) m) : xc_wr_byteAt (d + 1) l1 m Q := by
  apply xr_wr_byteAt
  unfold f_wr_byteAt at h
  repeat' first | split | apply And.intro
  all_goals first | (simp_all only [↓reduceIte, and_self, and_true, true_and]; done) | omega | (simp_all; done) | grind
/-- PaperHouse.fault(I)I -/
noncomputable def f_x_fault (m : w_M) (l1 : Int) : Int := if l1 = 0 then (m 357 15) else (if l1 = 1 then (m 357 16) else (if l1 = 2 then (m 357 17) else (if l1 = 3 then (m 357 18) else ((-1)))))
theorem sp_x_fault {d : Nat} {l1 : Int} {m : w_M} {Q : Int → w_M → Prop} (h : Q (f_x_fault m l1) m) : xc_x_fault (d + 1) l1 m Q := by
  apply xr_x_fault
  unfold f_x_fault at h
  repeat' first | split | apply And.intro
  all_goals first | (simp_all only [↓reduceIte, and_self, and_true, true_and]; done) | omega | (simp_all; done) | grind
/-- PaperHouse.glyph(II)I -/
noncomputable def f_x_glyph (m : w_M) (l1 l2 : Int) : Int := if (m 357 14) = 0 then ((-1)) else (f_pa_glyphAt m l1 l2)
def k_x_glyph (m : w_M) (l1 l2 : Int) : Prop := if (m 357 14) = 0 then (True) else (k_pa_glyphAt m l1 l2)
theorem sp_x_glyph {d : Nat} {l1 l2 : Int} {m : w_M} {Q : Int → w_M → Prop} (hg : k_x_glyph m l1 l2) (h : Q (f_x_glyph m l1 l2) m) : xc_x_glyph (d + 2) l1 l2 m Q := by
  apply xr_x_glyph
  unfold f_x_glyph at h
  unfold k_x_glyph at hg
  repeat' first | refine sp_pa_glyphAt (by first | (simp_all only [↓reduceIte, and_self, and_true, true_and]; done) | grind) ?_ | split | apply And.intro
  all_goals first | (simp_all only [↓reduceIte, and_self, and_true, true_and]; done) | omega | (simp_all; done) | grind
/-- PaperHouse.isNowhere()Z -/
noncomputable def f_x_isNowhere (m : w_M) : Int := if (m 357 14) = 0 then (1) else (if (m 357 12) < 0 then (1) else (if (m 357 12) < 25 then (0) else (1)))
theorem sp_x_isNowhere {d : Nat} {m : w_M} {Q : Int → w_M → Prop} (h : Q (f_x_isNowhere m ) m) : xc_x_isNowhere (d + 1)  m Q := by
  apply xr_x_isNowhere
  unfold f_x_isNowhere at h
  repeat' first | split | apply And.intro
  all_goals first | (simp_all only [↓reduceIte, and_self, and_true, true_and]; done) | omega | (simp_all; done) | grind
/-- PaperHouse.keyHere()I -/
noncomputable def f_x_keyHere (m : w_M) : Int := if (f_x_isNowhere m) = 0 then (if (m 357 12) = 0 then ((-1)) else (f_st_keyOf m (m 427 (m 357 12)))) else ((-1))
def k_x_keyHere (m : w_M) : Prop := if (f_x_isNowhere m) = 0 then (if (m 357 12) = 0 then (True) else (((0 : Int) ≤ (m 357 12) ∧ (m 357 12) < 25))) else (True)
theorem sp_x_keyHere {d : Nat} {m : w_M} {Q : Int → w_M → Prop} (hg : k_x_keyHere m ) (h : Q (f_x_keyHere m ) m) : xc_x_keyHere (d + 2)  m Q := by
  apply xr_x_keyHere
  unfold f_x_keyHere at h
  unfold k_x_keyHere at hg
  repeat' first | refine sp_x_isNowhere ?_ | refine sp_st_keyOf ?_ | split | apply And.intro
  all_goals first | (simp_all only [↓reduceIte, and_self, and_true, true_and]; done) | omega | (simp_all; done) | grind
/-- PaperHouse.nodeHere()I -/
noncomputable def f_x_nodeHere (m : w_M) : Int := if (f_x_isNowhere m) = 0 then (m 427 (m 357 12)) else ((-1))
def k_x_nodeHere (m : w_M) : Prop := if (f_x_isNowhere m) = 0 then (((0 : Int) ≤ (m 357 12) ∧ (m 357 12) < 25)) else (True)
theorem sp_x_nodeHere {d : Nat} {m : w_M} {Q : Int → w_M → Prop} (hg : k_x_nodeHere m ) (h : Q (f_x_nodeHere m ) m) : xc_x_nodeHere (d + 2)  m Q := by
  apply xr_x_nodeHere
  unfold f_x_nodeHere at h
  unfold k_x_nodeHere at hg
  repeat' first | refine sp_x_isNowhere ?_ | split | apply And.intro
  all_goals first | (simp_all only [↓reduceIte, and_self, and_true, true_and]; done) | omega | (simp_all; done) | grind
/-- PaperHouse.out(I)I -/
noncomputable def f_x_out (m : w_M) (l1 : Int) : Int := f_wr_byteAt m l1
theorem sp_x_out {d : Nat} {l1 : Int} {m : w_M} {Q : Int → w_M → Prop} (h : Q (f_x_out m l1) m) : xc_x_out (d + 2) l1 m Q := by
  apply xr_x_out
  unfold f_x_out at h
  repeat' first | refine sp_wr_byteAt ?_ | split | apply And.intro
  all_goals first | (simp_all only [↓reduceIte, and_self, and_true, true_and]; done) | omega | (simp_all; done) | grind
/-- PaperHouse.outs()I -/
noncomputable def f_x_outs (m : w_M) : Int := m 418 3
theorem sp_x_outs {d : Nat} {m : w_M} {Q : Int → w_M → Prop} (h : Q (f_x_outs m ) m) : xc_x_outs (d + 1)  m Q := by
  apply xr_x_outs
  unfold f_x_outs at h
  repeat' first | split | apply And.intro
  all_goals first | (simp_all only [↓reduceIte, and_self, and_true, true_and]; done) | omega | (simp_all; done) | grind
/-- PaperHouse.pages()I -/
noncomputable def f_x_pages (m : w_M) : Int := if (m 357 14) = 0 then ((-1)) else (m 399 7)
theorem sp_x_pages {d : Nat} {m : w_M} {Q : Int → w_M → Prop} (h : Q (f_x_pages m ) m) : xc_x_pages (d + 1)  m Q := by
  apply xr_x_pages
  unfold f_x_pages at h
  repeat' first | split | apply And.intro
  all_goals first | (simp_all only [↓reduceIte, and_self, and_true, true_and]; done) | omega | (simp_all; done) | grind
/-- PaperHouse.size(I)I -/
noncomputable def f_x_size (m : w_M) (l1 : Int) : Int := if (m 357 14) = 0 then ((-1)) else (if (f_ta_isStream m l1) = 0 then ((-1)) else (f_ta_lengthOf m l1))
def k_x_size (m : w_M) (l1 : Int) : Prop := if (m 357 14) = 0 then (True) else (k_ta_isStream m l1 ∧ (if (f_ta_isStream m l1) = 0 then (True) else (k_ta_lengthOf m l1)))
theorem sp_x_size {d : Nat} {l1 : Int} {m : w_M} {Q : Int → w_M → Prop} (hg : k_x_size m l1) (h : Q (f_x_size m l1) m) : xc_x_size (d + 3) l1 m Q := by
  apply xr_x_size
  unfold f_x_size at h
  unfold k_x_size at hg
  repeat' first | refine sp_ta_isStream (by first | (simp_all only [↓reduceIte, and_self, and_true, true_and]; done) | grind) ?_ | refine sp_ta_lengthOf (by first | (simp_all only [↓reduceIte, and_self, and_true, true_and]; done) | grind) ?_ | split | apply And.intro
  all_goals first | (simp_all only [↓reduceIte, and_self, and_true, true_and]; done) | omega | (simp_all; done) | grind
/-- PaperHouseModel.apart(II)I -/
noncomputable def f_m_apart (m : w_M) (l0 l1 : Int) : Int := if l0 < l1 then (w_32 (l1 - l0)) else (w_32 (l0 - l1))
theorem sp_m_apart {d : Nat} {l0 l1 : Int} {m : w_M} {Q : Int → w_M → Prop} (h : Q (f_m_apart m l0 l1) m) : xc_m_apart (d + 1) l0 l1 m Q := by
  apply xr_m_apart
  unfold f_m_apart at h
  repeat' first | split | apply And.intro
  all_goals first | (simp_all only [↓reduceIte, and_self, and_true, true_and]; done) | omega | (simp_all; done) | grind
/-- PaperHouseModel.byteHere(I)I -/
noncomputable def f_m_byteHere (m : w_M) (l1 : Int) : Int := if l1 < (m 428 3) then ((m 430 l1) % 256) else ((-1))
def k_m_byteHere (m : w_M) (l1 : Int) : Prop := if l1 < (m 428 3) then (((0 : Int) ≤ l1 ∧ l1 < 8000)) else (True)
theorem sp_m_byteHere {d : Nat} {l1 : Int} {m : w_M} {Q : Int → w_M → Prop} (hg : k_m_byteHere m l1) (h : Q (f_m_byteHere m l1) m) : xc_m_byteHere (d + 1) l1 m Q := by
  apply xr_m_byteHere
  unfold f_m_byteHere at h
  unfold k_m_byteHere at hg
  repeat' first | split | apply And.intro
  all_goals first | (simp_all only [↓reduceIte, and_self, and_true, true_and]; done) | omega | (simp_all; done) | grind
/-- PaperHouseModel.distanceOf(I)I -/
noncomputable def f_m_distanceOf (m : w_M) (l0 : Int) : Int := if l0 < 4 then (w_32 (1 + l0)) else (w_32 (1 + (w_shl (w_32 (2 + (l0 % 2))) (w_32 ((Int.tdiv l0 2) - 1)))))
theorem sp_m_distanceOf {d : Nat} {l0 : Int} {m : w_M} {Q : Int → w_M → Prop} (h : Q (f_m_distanceOf m l0) m) : xc_m_distanceOf (d + 1) l0 m Q := by
  apply xr_m_distanceOf
  unfold f_m_distanceOf at h
  repeat' first | split | apply And.intro
  all_goals first | (simp_all only [↓reduceIte, and_self, and_true, true_and]; done) | omega | (simp_all; done) | grind
/-- PaperHouseModel.extraOf(I)I -/
noncomputable def f_m_extraOf (m : w_M) (l0 : Int) : Int := if l0 < 8 then (0) else (if l0 = 28 then (0) else (w_32 ((Int.tdiv l0 4) - 1)))
theorem sp_m_extraOf {d : Nat} {l0 : Int} {m : w_M} {Q : Int → w_M → Prop} (h : Q (f_m_extraOf m l0) m) : xc_m_extraOf (d + 1) l0 m Q := by
  apply xr_m_extraOf
  unfold f_m_extraOf at h
  repeat' first | split | apply And.intro
  all_goals first | (simp_all only [↓reduceIte, and_self, and_true, true_and]; done) | omega | (simp_all; done) | grind
/-- PaperHouseModel.farExtra(I)I -/
noncomputable def f_m_farExtra (m : w_M) (l0 : Int) : Int := if l0 < 4 then (0) else (w_32 ((Int.tdiv l0 2) - 1))
theorem sp_m_farExtra {d : Nat} {l0 : Int} {m : w_M} {Q : Int → w_M → Prop} (h : Q (f_m_farExtra m l0) m) : xc_m_farExtra (d + 1) l0 m Q := by
  apply xr_m_farExtra
  unfold f_m_farExtra at h
  repeat' first | split | apply And.intro
  all_goals first | (simp_all only [↓reduceIte, and_self, and_true, true_and]; done) | omega | (simp_all; done) | grind
/-- PaperHouseModel.fault(I)I -/
noncomputable def f_m_fault (m : w_M) (l1 : Int) : Int := if l1 = 0 then (m 428 68) else (if l1 = 1 then (m 428 69) else (if l1 = 2 then (m 428 70) else (if l1 = 3 then (m 428 71) else ((-1)))))
theorem sp_m_fault {d : Nat} {l1 : Int} {m : w_M} {Q : Int → w_M → Prop} (h : Q (f_m_fault m l1) m) : xc_m_fault (d + 1) l1 m Q := by
  apply xr_m_fault
  unfold f_m_fault at h
  repeat' first | split | apply And.intro
  all_goals first | (simp_all only [↓reduceIte, and_self, and_true, true_and]; done) | omega | (simp_all; done) | grind
/-- PaperHouseModel.generationOf(I)J -/
noncomputable def f_m_generationOf (m : w_M) (l1 : Int) : Int := if (m 451 l1) = 2 then (0) else (m 453 l1)
def k_m_generationOf (m : w_M) (l1 : Int) : Prop := ((0 : Int) ≤ l1 ∧ l1 < 200) ∧ (if (m 451 l1) = 2 then (True) else (((0 : Int) ≤ l1 ∧ l1 < 200)))
theorem sp_m_generationOf {d : Nat} {l1 : Int} {m : w_M} {Q : Int → w_M → Prop} (hg : k_m_generationOf m l1) (h : Q (f_m_generationOf m l1) m) : xc_m_generationOf (d + 1) l1 m Q := by
  apply xr_m_generationOf
  unfold f_m_generationOf at h
  unfold k_m_generationOf at hg
  repeat' first | split | apply And.intro
  all_goals first | (simp_all only [↓reduceIte, and_self, and_true, true_and]; done) | omega | (simp_all; done) | grind
/-- PaperHouseModel.glyph(II)I -/
noncomputable def f_m_glyph (m : w_M) (l1 l2 : Int) : Int := if l1 < 0 then ((-1)) else (if l1 < (m 428 104) then (if l2 < 0 then ((-1)) else (if 4 < l2 then ((-1)) else (m 481 (w_32 ((w_32 (5 * l1)) + l2))))) else ((-1)))
def k_m_glyph (m : w_M) (l1 l2 : Int) : Prop := if l1 < 0 then (True) else (if l1 < (m 428 104) then (if l2 < 0 then (True) else (if 4 < l2 then (True) else (((0 : Int) ≤ (w_32 ((w_32 (5 * l1)) + l2)) ∧ (w_32 ((w_32 (5 * l1)) + l2)) < 7500)))) else (True))
theorem sp_m_glyph {d : Nat} {l1 l2 : Int} {m : w_M} {Q : Int → w_M → Prop} (hg : k_m_glyph m l1 l2) (h : Q (f_m_glyph m l1 l2) m) : xc_m_glyph (d + 1) l1 l2 m Q := by
  apply xr_m_glyph
  unfold f_m_glyph at h
  unfold k_m_glyph at hg
  repeat' first | split | apply And.intro
  all_goals first | (simp_all only [↓reduceIte, and_self, and_true, true_and]; done) | omega | (simp_all; done) | grind
/-- PaperHouseModel.good()Z -/
noncomputable def f_m_good (m : w_M) : Int := if (m 428 27) = 0 then (1) else (0)
theorem sp_m_good {d : Nat} {m : w_M} {Q : Int → w_M → Prop} (h : Q (f_m_good m ) m) : xc_m_good (d + 1)  m Q := by
  apply xr_m_good
  unfold f_m_good at h
  repeat' first | split | apply And.intro
  all_goals first | (simp_all only [↓reduceIte, and_self, and_true, true_and]; done) | omega | (simp_all; done) | grind
/-- PaperHouseModel.hexDigit(I)I -/
noncomputable def f_m_hexDigit (m : w_M) (l0 : Int) : Int := if l0 < 10 then (w_32 (48 + l0)) else (w_32 ((w_32 (65 + l0)) - 10))
theorem sp_m_hexDigit {d : Nat} {l0 : Int} {m : w_M} {Q : Int → w_M → Prop} (h : Q (f_m_hexDigit m l0) m) : xc_m_hexDigit (d + 1) l0 m Q := by
  apply xr_m_hexDigit
  unfold f_m_hexDigit at h
  repeat' first | split | apply And.intro
  all_goals first | (simp_all only [↓reduceIte, and_self, and_true, true_and]; done) | omega | (simp_all; done) | grind
/-- PaperHouseModel.isBlank(I)Z -/
noncomputable def f_m_isBlank (m : w_M) (l0 : Int) : Int := if l0 = 0 then (1) else (if l0 = 9 then (1) else (if l0 = 10 then (1) else (if l0 = 12 then (1) else (if l0 = 13 then (1) else (if l0 = 32 then (1) else (0))))))
theorem sp_m_isBlank {d : Nat} {l0 : Int} {m : w_M} {Q : Int → w_M → Prop} (h : Q (f_m_isBlank m l0) m) : xc_m_isBlank (d + 1) l0 m Q := by
  apply xr_m_isBlank
  unfold f_m_isBlank at h
  repeat' first | split | apply And.intro
  all_goals first | (simp_all only [↓reduceIte, and_self, and_true, true_and]; done) | omega | (simp_all; done) | grind
/-- PaperHouseModel.isDelimiter(I)Z -/
noncomputable def f_m_isDelimiter (m : w_M) (l0 : Int) : Int := if l0 = 40 then (1) else (if l0 = 41 then (1) else (if l0 = 60 then (1) else (if l0 = 62 then (1) else (if l0 = 91 then (1) else (if l0 = 93 then (1) else (if l0 = 123 then (1) else (if l0 = 125 then (1) else (if l0 = 47 then (1) else (if l0 = 37 then (1) else (0))))))))))
theorem sp_m_isDelimiter {d : Nat} {l0 : Int} {m : w_M} {Q : Int → w_M → Prop} (h : Q (f_m_isDelimiter m l0) m) : xc_m_isDelimiter (d + 1) l0 m Q := by
  apply xr_m_isDelimiter
  unfold f_m_isDelimiter at h
  repeat' first | split | apply And.intro
  all_goals first | (simp_all only [↓reduceIte, and_self, and_true, true_and]; done) | omega | (simp_all; done) | grind
/-- PaperHouseModel.isDict(I)Z -/
noncomputable def f_m_isDict (m : w_M) (l1 : Int) : Int := if l1 < 0 then (0) else (if (m 432 l1) = 7 then (1) else (0))
def k_m_isDict (m : w_M) (l1 : Int) : Prop := if l1 < 0 then (True) else (((0 : Int) ≤ l1 ∧ l1 < 40000))
theorem sp_m_isDict {d : Nat} {l1 : Int} {m : w_M} {Q : Int → w_M → Prop} (hg : k_m_isDict m l1) (h : Q (f_m_isDict m l1) m) : xc_m_isDict (d + 1) l1 m Q := by
  apply xr_m_isDict
  unfold f_m_isDict at h
  unfold k_m_isDict at hg
  repeat' first | split | apply And.intro
  all_goals first | (simp_all only [↓reduceIte, and_self, and_true, true_and]; done) | omega | (simp_all; done) | grind
/-- PaperHouseModel.isDigit(I)Z -/
noncomputable def f_m_isDigit (m : w_M) (l0 : Int) : Int := if l0 < 48 then (0) else (if 57 < l0 then (0) else (1))
theorem sp_m_isDigit {d : Nat} {l0 : Int} {m : w_M} {Q : Int → w_M → Prop} (h : Q (f_m_isDigit m l0) m) : xc_m_isDigit (d + 1) l0 m Q := by
  apply xr_m_isDigit
  unfold f_m_isDigit at h
  repeat' first | split | apply And.intro
  all_goals first | (simp_all only [↓reduceIte, and_self, and_true, true_and]; done) | omega | (simp_all; done) | grind
/-- PaperHouseModel.isNothing(I)Z -/
noncomputable def f_m_isNothing (m : w_M) (l1 : Int) : Int := if l1 < 0 then (1) else (if (m 432 l1) = 0 then (1) else (0))
def k_m_isNothing (m : w_M) (l1 : Int) : Prop := if l1 < 0 then (True) else (((0 : Int) ≤ l1 ∧ l1 < 40000))
theorem sp_m_isNothing {d : Nat} {l1 : Int} {m : w_M} {Q : Int → w_M → Prop} (hg : k_m_isNothing m l1) (h : Q (f_m_isNothing m l1) m) : xc_m_isNothing (d + 1) l1 m Q := by
  apply xr_m_isNothing
  unfold f_m_isNothing at h
  unfold k_m_isNothing at hg
  repeat' first | split | apply And.intro
  all_goals first | (simp_all only [↓reduceIte, and_self, and_true, true_and]; done) | omega | (simp_all; done) | grind
/-- PaperHouseModel.isNumber(I)Z -/
noncomputable def f_m_isNumber (m : w_M) (l1 : Int) : Int := if l1 < 0 then (0) else (if (m 432 l1) = 3 then (1) else (if (m 432 l1) = 2 then (if (m 433 l1) < (-32768) then (0) else (if 32767 < (m 433 l1) then (0) else (1))) else (0)))
def k_m_isNumber (m : w_M) (l1 : Int) : Prop := if l1 < 0 then (True) else (((0 : Int) ≤ l1 ∧ l1 < 40000) ∧ (if (m 432 l1) = 3 then (True) else (((0 : Int) ≤ l1 ∧ l1 < 40000) ∧ (if (m 432 l1) = 2 then (((0 : Int) ≤ l1 ∧ l1 < 40000) ∧ (if (m 433 l1) < (-32768) then (True) else (((0 : Int) ≤ l1 ∧ l1 < 40000)))) else (True)))))
theorem sp_m_isNumber {d : Nat} {l1 : Int} {m : w_M} {Q : Int → w_M → Prop} (hg : k_m_isNumber m l1) (h : Q (f_m_isNumber m l1) m) : xc_m_isNumber (d + 1) l1 m Q := by
  apply xr_m_isNumber
  unfold f_m_isNumber at h
  unfold k_m_isNumber at hg
  repeat' first | split | apply And.intro
  all_goals first | (simp_all only [↓reduceIte, and_self, and_true, true_and]; done) | omega | (simp_all; done) | grind
/-- PaperHouseModel.isObject(I)Z -/
noncomputable def f_m_isObject (m : w_M) (l1 : Int) : Int := if (m 428 6) = 0 then (0) else (if 0 < l1 then (if l1 < (m 428 60) then (if (m 451 l1) = 0 then (0) else (1)) else (0)) else (0))
def k_m_isObject (m : w_M) (l1 : Int) : Prop := if (m 428 6) = 0 then (True) else (if 0 < l1 then (if l1 < (m 428 60) then (((0 : Int) ≤ l1 ∧ l1 < 200)) else (True)) else (True))
theorem sp_m_isObject {d : Nat} {l1 : Int} {m : w_M} {Q : Int → w_M → Prop} (hg : k_m_isObject m l1) (h : Q (f_m_isObject m l1) m) : xc_m_isObject (d + 1) l1 m Q := by
  apply xr_m_isObject
  unfold f_m_isObject at h
  unfold k_m_isObject at hg
  repeat' first | split | apply And.intro
  all_goals first | (simp_all only [↓reduceIte, and_self, and_true, true_and]; done) | omega | (simp_all; done) | grind
/-- PaperHouseModel.isOf(II)Z -/
noncomputable def f_m_isOf (m : w_M) (l1 l2 : Int) : Int := if (m 428 94) = l1 then (if (m 432 (m 473 (w_32 (l1 - 1)))) = l2 then (1) else (0)) else (0)
def k_m_isOf (m : w_M) (l1 l2 : Int) : Prop := if (m 428 94) = l1 then (((0 : Int) ≤ (w_32 (l1 - 1)) ∧ (w_32 (l1 - 1)) < 40) ∧ (((0 : Int) ≤ (m 473 (w_32 (l1 - 1))) ∧ (m 473 (w_32 (l1 - 1))) < 40000))) else (True)
theorem sp_m_isOf {d : Nat} {l1 l2 : Int} {m : w_M} {Q : Int → w_M → Prop} (hg : k_m_isOf m l1 l2) (h : Q (f_m_isOf m l1 l2) m) : xc_m_isOf (d + 1) l1 l2 m Q := by
  apply xr_m_isOf
  unfold f_m_isOf at h
  unfold k_m_isOf at hg
  repeat' first | split | apply And.intro
  all_goals first | (simp_all only [↓reduceIte, and_self, and_true, true_and]; done) | omega | (simp_all; done) | grind
/-- PaperHouseModel.isPage(I)Z -/
noncomputable def f_m_isPage (m : w_M) (l1 : Int) : Int := if (m 428 6) = 0 then (0) else (if l1 < 0 then (0) else (if l1 < (m 428 84) then (1) else (0)))
theorem sp_m_isPage {d : Nat} {l1 : Int} {m : w_M} {Q : Int → w_M → Prop} (h : Q (f_m_isPage m l1) m) : xc_m_isPage (d + 1) l1 m Q := by
  apply xr_m_isPage
  unfold f_m_isPage at h
  repeat' first | split | apply And.intro
  all_goals first | (simp_all only [↓reduceIte, and_self, and_true, true_and]; done) | omega | (simp_all; done) | grind
/-- PaperHouseModel.isRegular(I)Z -/
noncomputable def f_m_isRegular (m : w_M) (l0 : Int) : Int := if l0 < 0 then (0) else (if (f_m_isBlank m l0) = 0 then (if (f_m_isDelimiter m l0) = 0 then (1) else (0)) else (0))
theorem sp_m_isRegular {d : Nat} {l0 : Int} {m : w_M} {Q : Int → w_M → Prop} (h : Q (f_m_isRegular m l0) m) : xc_m_isRegular (d + 2) l0 m Q := by
  apply xr_m_isRegular
  unfold f_m_isRegular at h
  repeat' first | refine sp_m_isBlank ?_ | refine sp_m_isDelimiter ?_ | split | apply And.intro
  all_goals first | (simp_all only [↓reduceIte, and_self, and_true, true_and]; done) | omega | (simp_all; done) | grind
/-- PaperHouseModel.kindHere()I -/
noncomputable def f_m_kindHere (m : w_M) : Int := if (m 428 88) = 0 then (if (m 457 (m 428 89)) = 0 then (m 432 (m 471 (m 428 88))) else (9)) else (m 432 (m 471 (m 428 88)))
def k_m_kindHere (m : w_M) : Prop := if (m 428 88) = 0 then (((0 : Int) ≤ (m 428 89) ∧ (m 428 89) < 200) ∧ (if (m 457 (m 428 89)) = 0 then (((0 : Int) ≤ (m 428 88) ∧ (m 428 88) < 26) ∧ (((0 : Int) ≤ (m 471 (m 428 88)) ∧ (m 471 (m 428 88)) < 40000))) else (True))) else (((0 : Int) ≤ (m 428 88) ∧ (m 428 88) < 26) ∧ (((0 : Int) ≤ (m 471 (m 428 88)) ∧ (m 471 (m 428 88)) < 40000)))
theorem sp_m_kindHere {d : Nat} {m : w_M} {Q : Int → w_M → Prop} (hg : k_m_kindHere m ) (h : Q (f_m_kindHere m ) m) : xc_m_kindHere (d + 1)  m Q := by
  apply xr_m_kindHere
  unfold f_m_kindHere at h
  unfold k_m_kindHere at hg
  repeat' first | split | apply And.intro
  all_goals first | (simp_all only [↓reduceIte, and_self, and_true, true_and]; done) | omega | (simp_all; done) | grind
/-- PaperHouseModel.lengthOf(I)I -/
noncomputable def f_m_lengthOf (m : w_M) (l0 : Int) : Int := if l0 < 8 then (w_32 (3 + l0)) else (if l0 = 28 then (258) else (w_32 (3 + (w_shl (w_32 (4 + (l0 % 4))) (w_32 ((Int.tdiv l0 4) - 1))))))
theorem sp_m_lengthOf {d : Nat} {l0 : Int} {m : w_M} {Q : Int → w_M → Prop} (h : Q (f_m_lengthOf m l0) m) : xc_m_lengthOf (d + 1) l0 m Q := by
  apply xr_m_lengthOf
  unfold f_m_lengthOf at h
  repeat' first | split | apply And.intro
  all_goals first | (simp_all only [↓reduceIte, and_self, and_true, true_and]; done) | omega | (simp_all; done) | grind
/-- PaperHouseModel.orderOf(I)I -/
noncomputable def f_m_orderOf (m : w_M) (l0 : Int) : Int := if l0 < 3 then (w_32 (16 + l0)) else (if l0 = 3 then (0) else (if (l0 % 2) = 0 then (w_32 (8 + (Int.tdiv (w_32 (l0 - 4)) 2))) else (w_32 (7 - (Int.tdiv (w_32 (l0 - 5)) 2)))))
theorem sp_m_orderOf {d : Nat} {l0 : Int} {m : w_M} {Q : Int → w_M → Prop} (h : Q (f_m_orderOf m l0) m) : xc_m_orderOf (d + 1) l0 m Q := by
  apply xr_m_orderOf
  unfold f_m_orderOf at h
  repeat' first | split | apply And.intro
  all_goals first | (simp_all only [↓reduceIte, and_self, and_true, true_and]; done) | omega | (simp_all; done) | grind
/-- PaperHouseModel.out(I)I -/
noncomputable def f_m_out (m : w_M) (l1 : Int) : Int := if l1 < 0 then ((-1)) else (if l1 < (m 428 5) then ((m 431 l1) % 256) else ((-1)))
def k_m_out (m : w_M) (l1 : Int) : Prop := if l1 < 0 then (True) else (if l1 < (m 428 5) then (((0 : Int) ≤ l1 ∧ l1 < 30100)) else (True))
theorem sp_m_out {d : Nat} {l1 : Int} {m : w_M} {Q : Int → w_M → Prop} (hg : k_m_out m l1) (h : Q (f_m_out m l1) m) : xc_m_out (d + 1) l1 m Q := by
  apply xr_m_out
  unfold f_m_out at h
  unfold k_m_out at hg
  repeat' first | split | apply And.intro
  all_goals first | (simp_all only [↓reduceIte, and_self, and_true, true_and]; done) | omega | (simp_all; done) | grind
/-- PaperHouseModel.outs()I -/
noncomputable def f_m_outs (m : w_M) : Int := m 428 5
theorem sp_m_outs {d : Nat} {m : w_M} {Q : Int → w_M → Prop} (h : Q (f_m_outs m ) m) : xc_m_outs (d + 1)  m Q := by
  apply xr_m_outs
  unfold f_m_outs at h
  repeat' first | split | apply And.intro
  all_goals first | (simp_all only [↓reduceIte, and_self, and_true, true_and]; done) | omega | (simp_all; done) | grind
/-- PaperHouseModel.paeth(III)I -/
noncomputable def f_m_paeth (m : w_M) (l0 l1 l2 : Int) : Int := if (f_m_apart m (w_32 ((w_32 (l0 + l1)) - l2)) l1) < (f_m_apart m (w_32 ((w_32 (l0 + l1)) - l2)) l0) then (if (f_m_apart m (w_32 ((w_32 (l0 + l1)) - l2)) l2) < (f_m_apart m (w_32 ((w_32 (l0 + l1)) - l2)) l1) then (l2) else (l1)) else (if (f_m_apart m (w_32 ((w_32 (l0 + l1)) - l2)) l2) < (f_m_apart m (w_32 ((w_32 (l0 + l1)) - l2)) l0) then (if (f_m_apart m (w_32 ((w_32 (l0 + l1)) - l2)) l2) < (f_m_apart m (w_32 ((w_32 (l0 + l1)) - l2)) l1) then (l2) else (l1)) else (l0))
theorem sp_m_paeth {d : Nat} {l0 l1 l2 : Int} {m : w_M} {Q : Int → w_M → Prop} (h : Q (f_m_paeth m l0 l1 l2) m) : xc_m_paeth (d + 2) l0 l1 l2 m Q := by
  apply xr_m_paeth
  unfold f_m_paeth at h
  repeat' first | refine sp_m_apart ?_ | split | apply And.intro
  all_goals first | (simp_all only [↓reduceIte, and_self, and_true, true_and]; done) | omega | (simp_all; done) | grind
/-- PaperHouseModel.pages()I -/
noncomputable def f_m_pages (m : w_M) : Int := if (m 428 6) = 0 then ((-1)) else (m 428 84)
theorem sp_m_pages {d : Nat} {m : w_M} {Q : Int → w_M → Prop} (h : Q (f_m_pages m ) m) : xc_m_pages (d + 1)  m Q := by
  apply xr_m_pages
  unfold f_m_pages at h
  repeat' first | split | apply And.intro
  all_goals first | (simp_all only [↓reduceIte, and_self, and_true, true_and]; done) | omega | (simp_all; done) | grind
/-- PaperHouseModel.peek(I)I -/
noncomputable def f_m_peek (m : w_M) (l1 : Int) : Int := if (w_32 ((m 428 21) + l1)) < (m 428 20) then ((m (m 428 18) (w_32 ((w_32 ((m 428 19) + (m 428 21))) + l1))) % 256) else ((-1))
def k_m_peek (m : w_M) (l1 : Int) : Prop := if (w_32 ((m 428 21) + l1)) < (m 428 20) then ((0 : Int) ≤ m 428 18 ∧ (w_isA 1 (m 428 18) ∧ (((0 : Int) ≤ (w_32 ((w_32 ((m 428 19) + (m 428 21))) + l1)) ∧ (w_32 ((w_32 ((m 428 19) + (m 428 21))) + l1)) < w_ln (m 428 18))))) else (True)
theorem sp_m_peek {d : Nat} {l1 : Int} {m : w_M} {Q : Int → w_M → Prop} (hg : k_m_peek m l1) (h : Q (f_m_peek m l1) m) : xc_m_peek (d + 1) l1 m Q := by
  apply xr_m_peek
  unfold f_m_peek at h
  unfold k_m_peek at hg
  repeat' first | split | apply And.intro
  all_goals first | (simp_all only [↓reduceIte, and_self, and_true, true_and]; done) | omega | (simp_all; done) | grind
/-- PaperHouseModel.size(I)I -/
noncomputable def f_m_size (m : w_M) (l1 : Int) : Int := if (f_m_isObject m l1) = 0 then ((-1)) else (if (m 457 l1) = 0 then ((-1)) else (m 459 l1))
def k_m_size (m : w_M) (l1 : Int) : Prop := k_m_isObject m l1 ∧ (if (f_m_isObject m l1) = 0 then (True) else (((0 : Int) ≤ l1 ∧ l1 < 200) ∧ (if (m 457 l1) = 0 then (True) else (((0 : Int) ≤ l1 ∧ l1 < 200)))))
theorem sp_m_size {d : Nat} {l1 : Int} {m : w_M} {Q : Int → w_M → Prop} (hg : k_m_size m l1) (h : Q (f_m_size m l1) m) : xc_m_size (d + 2) l1 m Q := by
  apply xr_m_size
  unfold f_m_size at h
  unfold k_m_size at hg
  repeat' first | refine sp_m_isObject (by first | (simp_all only [↓reduceIte, and_self, and_true, true_and]; done) | grind) ?_ | split | apply And.intro
  all_goals first | (simp_all only [↓reduceIte, and_self, and_true, true_and]; done) | omega | (simp_all; done) | grind
/-- PaperHouseModel.target(I)I -/
noncomputable def f_m_target (m : w_M) (l1 : Int) : Int := if (m 433 l1) < (m 428 60) then (if (m 451 (m 433 l1)) = 0 then ((-1)) else (if (f_m_generationOf m (m 433 l1)) = (m 434 l1) then (m 433 l1) else ((-1)))) else ((-1))
def k_m_target (m : w_M) (l1 : Int) : Prop := ((0 : Int) ≤ l1 ∧ l1 < 40000) ∧ (if (m 433 l1) < (m 428 60) then (((0 : Int) ≤ (m 433 l1) ∧ (m 433 l1) < 200) ∧ (if (m 451 (m 433 l1)) = 0 then (True) else (k_m_generationOf m (m 433 l1) ∧ (((0 : Int) ≤ l1 ∧ l1 < 40000))))) else (True))
theorem sp_m_target {d : Nat} {l1 : Int} {m : w_M} {Q : Int → w_M → Prop} (hg : k_m_target m l1) (h : Q (f_m_target m l1) m) : xc_m_target (d + 2) l1 m Q := by
  apply xr_m_target
  unfold f_m_target at h
  unfold k_m_target at hg
  repeat' first | refine sp_m_generationOf (by first | (simp_all only [↓reduceIte, and_self, and_true, true_and]; done) | grind) ?_ | split | apply And.intro
  all_goals first | (simp_all only [↓reduceIte, and_self, and_true, true_and]; done) | omega | (simp_all; done) | grind
/-- PaperHouseModel.thousandth(J)J -/
noncomputable def f_m_thousandth (m : w_M) (l0 : Int) : Int := if (w_64 (l0 + 32768000)) < 0 then (w_64 (-(Int.tdiv (w_64 ((w_64 (-(w_64 (l0 + 32768000)))) + 65535999)) 65536000))) else (Int.tdiv (w_64 (l0 + 32768000)) 65536000)
theorem sp_m_thousandth {d : Nat} {l0 : Int} {m : w_M} {Q : Int → w_M → Prop} (h : Q (f_m_thousandth m l0) m) : xc_m_thousandth (d + 1) l0 m Q := by
  apply xr_m_thousandth
  unfold f_m_thousandth at h
  repeat' first | split | apply And.intro
  all_goals first | (simp_all only [↓reduceIte, and_self, and_true, true_and]; done) | omega | (simp_all; done) | grind
/-- PaperHouseModel.times(JJ)J -/
noncomputable def f_m_times (m : w_M) (l0 l2 : Int) : Int := (w_64 ((w_64 (l0 * l2)) + 32768)) / 65536
theorem sp_m_times {d : Nat} {l0 l2 : Int} {m : w_M} {Q : Int → w_M → Prop} (h : Q (f_m_times m l0 l2) m) : xc_m_times (d + 1) l0 l2 m Q := by
  apply xr_m_times
  unfold f_m_times at h
  repeat' first | split | apply And.intro
  all_goals first | (simp_all only [↓reduceIte, and_self, and_true, true_and]; done) | omega | (simp_all; done) | grind
/-- PaperHouseModel.unitsOf(I)I -/
noncomputable def f_m_unitsOf (m : w_M) (l1 : Int) : Int := if (m 432 l1) = 3 then (m 433 l1) else (w_32 (65536 * (m 433 l1)))
def k_m_unitsOf (m : w_M) (l1 : Int) : Prop := ((0 : Int) ≤ l1 ∧ l1 < 40000) ∧ (((0 : Int) ≤ l1 ∧ l1 < 40000))
theorem sp_m_unitsOf {d : Nat} {l1 : Int} {m : w_M} {Q : Int → w_M → Prop} (hg : k_m_unitsOf m l1) (h : Q (f_m_unitsOf m l1) m) : xc_m_unitsOf (d + 1) l1 m Q := by
  apply xr_m_unitsOf
  unfold f_m_unitsOf at h
  unfold k_m_unitsOf at hg
  repeat' first | split | apply And.intro
  all_goals first | (simp_all only [↓reduceIte, and_self, and_true, true_and]; done) | omega | (simp_all; done) | grind
/-- PaperHouse$Store.isNumber(I)Z -/
noncomputable def f_st_isNumber (m : w_M) (l1 : Int) : Int := if (f_st_kindOf m l1) = 3 then (1) else (if (f_st_kindOf m l1) = 2 then (if (m 361 l1) < (-32768) then (0) else (if 32767 < (m 361 l1) then (0) else (1))) else (0))
def k_st_isNumber (m : w_M) (l1 : Int) : Prop := if (f_st_kindOf m l1) = 3 then (True) else (if (f_st_kindOf m l1) = 2 then (((0 : Int) ≤ l1 ∧ l1 < 16564) ∧ (if (m 361 l1) < (-32768) then (True) else (((0 : Int) ≤ l1 ∧ l1 < 16564)))) else (True))
theorem sp_st_isNumber {d : Nat} {l1 : Int} {m : w_M} {Q : Int → w_M → Prop} (hg : k_st_isNumber m l1) (h : Q (f_st_isNumber m l1) m) : xc_st_isNumber (d + 2) l1 m Q := by
  apply xr_st_isNumber
  unfold f_st_isNumber at h
  unfold k_st_isNumber at hg
  repeat' first | refine sp_st_kindOf ?_ | split | apply And.intro
  all_goals first | (simp_all only [↓reduceIte, and_self, and_true, true_and]; done) | omega | (simp_all; done) | grind
/-- PaperHouse$Store.letterOf(II)I -/
noncomputable def f_st_letterOf (m : w_M) (l1 l2 : Int) : Int := if l2 < 0 then ((-1)) else (if l2 < (f_st_letters m l1) then (if (w_32 ((f_st_oneOf m l1) + l2)) < 0 then ((-1)) else (if (w_32 ((f_st_oneOf m l1) + l2)) < 108612 then ((m 365 (w_32 ((f_st_oneOf m l1) + l2))) % 256) else ((-1)))) else ((-1)))
theorem sp_st_letterOf {d : Nat} {l1 l2 : Int} {m : w_M} {Q : Int → w_M → Prop} (h : Q (f_st_letterOf m l1 l2) m) : xc_st_letterOf (d + 2) l1 l2 m Q := by
  apply xr_st_letterOf
  unfold f_st_letterOf at h
  repeat' first | refine sp_st_letters ?_ | refine sp_st_oneOf ?_ | split | apply And.intro
  all_goals first | (simp_all only [↓reduceIte, and_self, and_true, true_and]; done) | omega | (simp_all; done) | grind
/-- PaperHouse$Table.beginOf(I)I -/
noncomputable def f_ta_beginOf (m : w_M) (l1 : Int) : Int := if (f_ta_isStream m l1) = 0 then (0) else (m 371 l1)
def k_ta_beginOf (m : w_M) (l1 : Int) : Prop := k_ta_isStream m l1 ∧ (if (f_ta_isStream m l1) = 0 then (True) else (((0 : Int) ≤ l1 ∧ l1 < 200)))
theorem sp_ta_beginOf {d : Nat} {l1 : Int} {m : w_M} {Q : Int → w_M → Prop} (hg : k_ta_beginOf m l1) (h : Q (f_ta_beginOf m l1) m) : xc_ta_beginOf (d + 2) l1 m Q := by
  apply xr_ta_beginOf
  unfold f_ta_beginOf at h
  unfold k_ta_beginOf at hg
  repeat' first | refine sp_ta_isStream (by first | (simp_all only [↓reduceIte, and_self, and_true, true_and]; done) | grind) ?_ | split | apply And.intro
  all_goals first | (simp_all only [↓reduceIte, and_self, and_true, true_and]; done) | omega | (simp_all; done) | grind
/-- PaperHouse$Table.byteOf(II)I -/
noncomputable def f_ta_byteOf (m : w_M) (l1 l2 : Int) : Int := if (f_ta_isStream m l1) = 0 then ((-1)) else (if l2 < 0 then ((-1)) else (if l2 < (m 372 l1) then (if (w_32 ((m 371 l1) + l2)) < 0 then ((-1)) else (if (w_32 ((m 371 l1) + l2)) < 40000 then ((m 375 (w_32 ((m 371 l1) + l2))) % 256) else ((-1)))) else ((-1))))
def k_ta_byteOf (m : w_M) (l1 l2 : Int) : Prop := k_ta_isStream m l1 ∧ (if (f_ta_isStream m l1) = 0 then (True) else (if l2 < 0 then (True) else (((0 : Int) ≤ l1 ∧ l1 < 200) ∧ (if l2 < (m 372 l1) then (((0 : Int) ≤ l1 ∧ l1 < 200)) else (True)))))
theorem sp_ta_byteOf {d : Nat} {l1 l2 : Int} {m : w_M} {Q : Int → w_M → Prop} (hg : k_ta_byteOf m l1 l2) (h : Q (f_ta_byteOf m l1 l2) m) : xc_ta_byteOf (d + 2) l1 l2 m Q := by
  apply xr_ta_byteOf
  unfold f_ta_byteOf at h
  unfold k_ta_byteOf at hg
  repeat' first | refine sp_ta_isStream (by first | (simp_all only [↓reduceIte, and_self, and_true, true_and]; done) | grind) ?_ | split | apply And.intro
  all_goals first | (simp_all only [↓reduceIte, and_self, and_true, true_and]; done) | omega | (simp_all; done) | grind
/-- PaperHouse$Table.generationOf(I)I -/
noncomputable def f_ta_generationOf (m : w_M) (l1 : Int) : Int := if (f_ta_isFree m l1) = 0 then (m 369 l1) else (0)
def k_ta_generationOf (m : w_M) (l1 : Int) : Prop := k_ta_isFree m l1 ∧ (if (f_ta_isFree m l1) = 0 then (((0 : Int) ≤ l1 ∧ l1 < 200)) else (True))
theorem sp_ta_generationOf {d : Nat} {l1 : Int} {m : w_M} {Q : Int → w_M → Prop} (hg : k_ta_generationOf m l1) (h : Q (f_ta_generationOf m l1) m) : xc_ta_generationOf (d + 2) l1 m Q := by
  apply xr_ta_generationOf
  unfold f_ta_generationOf at h
  unfold k_ta_generationOf at hg
  repeat' first | refine sp_ta_isFree (by first | (simp_all only [↓reduceIte, and_self, and_true, true_and]; done) | grind) ?_ | split | apply And.intro
  all_goals first | (simp_all only [↓reduceIte, and_self, and_true, true_and]; done) | omega | (simp_all; done) | grind
/-- PaperHouse$Table.howOf(I)I -/
noncomputable def f_ta_howOf (m : w_M) (l1 : Int) : Int := if (f_ta_isFree m l1) = 0 then (m 367 l1) else (1)
def k_ta_howOf (m : w_M) (l1 : Int) : Prop := k_ta_isFree m l1 ∧ (if (f_ta_isFree m l1) = 0 then (((0 : Int) ≤ l1 ∧ l1 < 200)) else (True))
theorem sp_ta_howOf {d : Nat} {l1 : Int} {m : w_M} {Q : Int → w_M → Prop} (hg : k_ta_howOf m l1) (h : Q (f_ta_howOf m l1) m) : xc_ta_howOf (d + 2) l1 m Q := by
  apply xr_ta_howOf
  unfold f_ta_howOf at h
  unfold k_ta_howOf at hg
  repeat' first | refine sp_ta_isFree (by first | (simp_all only [↓reduceIte, and_self, and_true, true_and]; done) | grind) ?_ | split | apply And.intro
  all_goals first | (simp_all only [↓reduceIte, and_self, and_true, true_and]; done) | omega | (simp_all; done) | grind
/-- PaperHouse$Table.isChanged(I)Z -/
noncomputable def f_ta_isChanged (m : w_M) (l1 : Int) : Int := if (f_ta_isFree m l1) = 0 then (if (m 373 l1) = 0 then (0) else (1)) else (0)
def k_ta_isChanged (m : w_M) (l1 : Int) : Prop := k_ta_isFree m l1 ∧ (if (f_ta_isFree m l1) = 0 then (((0 : Int) ≤ l1 ∧ l1 < 200)) else (True))
theorem sp_ta_isChanged {d : Nat} {l1 : Int} {m : w_M} {Q : Int → w_M → Prop} (hg : k_ta_isChanged m l1) (h : Q (f_ta_isChanged m l1) m) : xc_ta_isChanged (d + 2) l1 m Q := by
  apply xr_ta_isChanged
  unfold f_ta_isChanged at h
  unfold k_ta_isChanged at hg
  repeat' first | refine sp_ta_isFree (by first | (simp_all only [↓reduceIte, and_self, and_true, true_and]; done) | grind) ?_ | split | apply And.intro
  all_goals first | (simp_all only [↓reduceIte, and_self, and_true, true_and]; done) | omega | (simp_all; done) | grind
/-- PaperHouse$Writer.isListed(II)Z -/
noncomputable def f_wr_isListed (m : w_M) (l1 l2 : Int) : Int := if l1 = l2 then (1) else (if (f_ta_isChanged m l1) = 0 then (if l1 < (m 366 12) then (0) else (if (f_ta_isFree m l1) = 0 then (0) else (1))) else (1))
def k_wr_isListed (m : w_M) (l1 l2 : Int) : Prop := if l1 = l2 then (True) else (k_ta_isChanged m l1 ∧ (if (f_ta_isChanged m l1) = 0 then (if l1 < (m 366 12) then (True) else (k_ta_isFree m l1)) else (True)))
theorem sp_wr_isListed {d : Nat} {l1 l2 : Int} {m : w_M} {Q : Int → w_M → Prop} (hg : k_wr_isListed m l1 l2) (h : Q (f_wr_isListed m l1 l2) m) : xc_wr_isListed (d + 3) l1 l2 m Q := by
  apply xr_wr_isListed
  unfold f_wr_isListed at h
  unfold k_wr_isListed at hg
  repeat' first | refine sp_ta_isChanged (by first | (simp_all only [↓reduceIte, and_self, and_true, true_and]; done) | grind) ?_ | refine sp_ta_isFree (by first | (simp_all only [↓reduceIte, and_self, and_true, true_and]; done) | grind) ?_ | split | apply And.intro
  all_goals first | (simp_all only [↓reduceIte, and_self, and_true, true_and]; done) | omega | (simp_all; done) | grind
/-- PaperHouse.data(II)I -/
noncomputable def f_x_data (m : w_M) (l1 l2 : Int) : Int := if (m 357 14) = 0 then ((-1)) else (f_ta_byteOf m l1 l2)
def k_x_data (m : w_M) (l1 l2 : Int) : Prop := if (m 357 14) = 0 then (True) else (k_ta_byteOf m l1 l2)
theorem sp_x_data {d : Nat} {l1 l2 : Int} {m : w_M} {Q : Int → w_M → Prop} (hg : k_x_data m l1 l2) (h : Q (f_x_data m l1 l2) m) : xc_x_data (d + 3) l1 l2 m Q := by
  apply xr_x_data
  unfold f_x_data at h
  unfold k_x_data at hg
  repeat' first | refine sp_ta_byteOf (by first | (simp_all only [↓reduceIte, and_self, and_true, true_and]; done) | grind) ?_ | split | apply And.intro
  all_goals first | (simp_all only [↓reduceIte, and_self, and_true, true_and]; done) | omega | (simp_all; done) | grind
/-- PaperHouse.kindHere()I -/
noncomputable def f_x_kindHere (m : w_M) : Int := if (m 357 12) = 0 then (if (f_ta_isStream m (m 357 13)) = 0 then (f_st_kindOf m (f_x_nodeHere m)) else (9)) else (f_st_kindOf m (f_x_nodeHere m))
def k_x_kindHere (m : w_M) : Prop := if (m 357 12) = 0 then (k_ta_isStream m (m 357 13) ∧ (if (f_ta_isStream m (m 357 13)) = 0 then (k_x_nodeHere m) else (True))) else (k_x_nodeHere m)
theorem sp_x_kindHere {d : Nat} {m : w_M} {Q : Int → w_M → Prop} (hg : k_x_kindHere m ) (h : Q (f_x_kindHere m ) m) : xc_x_kindHere (d + 3)  m Q := by
  apply xr_x_kindHere
  unfold f_x_kindHere at h
  unfold k_x_kindHere at hg
  repeat' first | refine sp_ta_isStream (by first | (simp_all only [↓reduceIte, and_self, and_true, true_and]; done) | grind) ?_ | refine sp_x_nodeHere (by first | (simp_all only [↓reduceIte, and_self, and_true, true_and]; done) | grind) ?_ | refine sp_st_kindOf ?_ | split | apply And.intro
  all_goals first | (simp_all only [↓reduceIte, and_self, and_true, true_and]; done) | omega | (simp_all; done) | grind
/-- PaperHouse.letter(IZ)I -/
noncomputable def f_x_letter (m : w_M) (l1 l2 : Int) : Int := if (f_x_isNowhere m) = 0 then (if l2 = 0 then (f_st_letterOf m (f_x_nodeHere m) l1) else (f_st_letterOf m (f_x_keyHere m) l1)) else ((-1))
def k_x_letter (m : w_M) (l1 l2 : Int) : Prop := if (f_x_isNowhere m) = 0 then (if l2 = 0 then (k_x_nodeHere m) else (k_x_keyHere m)) else (True)
theorem sp_x_letter {d : Nat} {l1 l2 : Int} {m : w_M} {Q : Int → w_M → Prop} (hg : k_x_letter m l1 l2) (h : Q (f_x_letter m l1 l2) m) : xc_x_letter (d + 3) l1 l2 m Q := by
  apply xr_x_letter
  unfold f_x_letter at h
  unfold k_x_letter at hg
  repeat' first | refine sp_x_isNowhere ?_ | refine sp_x_nodeHere (by first | (simp_all only [↓reduceIte, and_self, and_true, true_and]; done) | grind) ?_ | refine sp_st_letterOf ?_ | refine sp_x_keyHere (by first | (simp_all only [↓reduceIte, and_self, and_true, true_and]; done) | grind) ?_ | split | apply And.intro
  all_goals first | (simp_all only [↓reduceIte, and_self, and_true, true_and]; done) | omega | (simp_all; done) | grind
/-- PaperHouseModel.data(II)I -/
noncomputable def f_m_data (m : w_M) (l1 l2 : Int) : Int := if (f_m_isObject m l1) = 0 then ((-1)) else (if (m 457 l1) = 0 then ((-1)) else (if l2 < 0 then ((-1)) else (if l2 < (m 459 l1) then ((m 441 (w_32 ((m 458 l1) + l2))) % 256) else ((-1)))))
def k_m_data (m : w_M) (l1 l2 : Int) : Prop := k_m_isObject m l1 ∧ (if (f_m_isObject m l1) = 0 then (True) else (((0 : Int) ≤ l1 ∧ l1 < 200) ∧ (if (m 457 l1) = 0 then (True) else (if l2 < 0 then (True) else (((0 : Int) ≤ l1 ∧ l1 < 200) ∧ (if l2 < (m 459 l1) then (((0 : Int) ≤ l1 ∧ l1 < 200) ∧ (((0 : Int) ≤ (w_32 ((m 458 l1) + l2)) ∧ (w_32 ((m 458 l1) + l2)) < 57000))) else (True)))))))
theorem sp_m_data {d : Nat} {l1 l2 : Int} {m : w_M} {Q : Int → w_M → Prop} (hg : k_m_data m l1 l2) (h : Q (f_m_data m l1 l2) m) : xc_m_data (d + 2) l1 l2 m Q := by
  apply xr_m_data
  unfold f_m_data at h
  unfold k_m_data at hg
  repeat' first | refine sp_m_isObject (by first | (simp_all only [↓reduceIte, and_self, and_true, true_and]; done) | grind) ?_ | split | apply And.intro
  all_goals first | (simp_all only [↓reduceIte, and_self, and_true, true_and]; done) | omega | (simp_all; done) | grind
/-- PaperHouseModel.hexOf(I)I -/
noncomputable def f_m_hexOf (m : w_M) (l0 : Int) : Int := if (f_m_isDigit m l0) = 0 then (if l0 < 97 then (if l0 < 65 then ((-1)) else (if 70 < l0 then ((-1)) else (w_32 ((w_32 (l0 - 65)) + 10)))) else (if 102 < l0 then (if l0 < 65 then ((-1)) else (if 70 < l0 then ((-1)) else (w_32 ((w_32 (l0 - 65)) + 10)))) else (w_32 ((w_32 (l0 - 97)) + 10)))) else (w_32 (l0 - 48))
theorem sp_m_hexOf {d : Nat} {l0 : Int} {m : w_M} {Q : Int → w_M → Prop} (h : Q (f_m_hexOf m l0) m) : xc_m_hexOf (d + 2) l0 m Q := by
  apply xr_m_hexOf
  unfold f_m_hexOf at h
  repeat' first | refine sp_m_isDigit ?_ | split | apply And.intro
  all_goals first | (simp_all only [↓reduceIte, and_self, and_true, true_and]; done) | omega | (simp_all; done) | grind
/-- PaperHouse.here(I)I -/
noncomputable def f_x_here (m : w_M) (l1 : Int) : Int := if (f_x_isNowhere m) = 0 then (if l1 < 0 then ((-1)) else (if 4 < l1 then ((-1)) else (if l1 = 0 then (f_x_kindHere m) else (if l1 = 1 then (if (f_x_kindHere m) = 1 then (f_st_oneOf m (f_x_nodeHere m)) else (if (f_x_kindHere m) = 2 then (f_st_oneOf m (f_x_nodeHere m)) else (if (f_x_kindHere m) = 3 then (f_st_oneOf m (f_x_nodeHere m)) else (if (f_x_kindHere m) = 8 then (f_st_oneOf m (f_x_nodeHere m)) else (0))))) else (if l1 = 2 then (if (f_x_kindHere m) = 9 then (f_st_twoOf m (f_x_nodeHere m)) else (if (f_x_kindHere m) < 4 then (0) else (if 7 < (f_x_kindHere m) then (0) else (f_st_twoOf m (f_x_nodeHere m))))) else (if l1 = 3 then (if (f_x_kindHere m) = 8 then (f_st_twoOf m (f_x_nodeHere m)) else (0)) else (max 0 (f_st_letters m (f_x_keyHere m))))))))) else ((-1))
def k_x_here (m : w_M) (l1 : Int) : Prop := if (f_x_isNowhere m) = 0 then (if l1 < 0 then (True) else (if 4 < l1 then (True) else (k_x_kindHere m ∧ (k_x_nodeHere m ∧ (if l1 = 0 then (True) else (if l1 = 1 then (True) else (if l1 = 2 then (True) else (if l1 = 3 then (True) else (k_x_keyHere m))))))))) else (True)
theorem sp_x_here {d : Nat} {l1 : Int} {m : w_M} {Q : Int → w_M → Prop} (hg : k_x_here m l1) (h : Q (f_x_here m l1) m) : xc_x_here (d + 4) l1 m Q := by
  apply xr_x_here
  unfold f_x_here at h
  unfold k_x_here at hg
  repeat' first | refine sp_x_isNowhere ?_ | refine sp_x_kindHere (by first | (simp_all only [↓reduceIte, and_self, and_true, true_and]; done) | grind) ?_ | refine sp_x_nodeHere (by first | (simp_all only [↓reduceIte, and_self, and_true, true_and]; done) | grind) ?_ | refine sp_st_oneOf ?_ | refine sp_st_twoOf ?_ | refine sp_x_keyHere (by first | (simp_all only [↓reduceIte, and_self, and_true, true_and]; done) | grind) ?_ | refine sp_st_letters ?_ | split | apply And.intro
  all_goals first | (simp_all only [↓reduceIte, and_self, and_true, true_and]; done) | omega | (simp_all; done) | grind
