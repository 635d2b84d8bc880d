/-! ===== what a heap looks like, its arrays' contents apart ===== -/
abbrev ex_Pt : Type := (Nat × List Value) ⊕ (Nat × Nat × Nat)
abbrev ex_Ct : Type := (Nat → Int32) × (Nat → Int64) × (Nat → Option Nat)
def ex_veq1 (a b : Value) : Bool := match a, b with
  | .int x, .int y => Nat.beq (ex_v x) (ex_v y)
  | .long x, .long y => Nat.beq x.toUInt64.toBitVec.toFin.val y.toUInt64.toBitVec.toFin.val
  | .ref x, .ref y => Nat.beq x y
  | .null, .null => true
  | _, _ => false
def ex_veq : List Value → List Value → Bool
  | [], [] => true
  | a :: l, b :: r => ex_veq1 a b && ex_veq l r
  | _, _ => false
def ex_like1 (c : ex_C) (p : ex_Pt) : Bool := match c, p with
  | .inl (ci, fs), .inl (cj, gs) => Nat.beq ci cj && ex_veq fs gs
  | .inr (t, n, .inl _), .inr (u, k, 0) => Nat.beq t u && Nat.beq n k
  | .inr (t, n, .inr (.inl _)), .inr (u, k, 1) => Nat.beq t u && Nat.beq n k
  | .inr (t, n, .inr (.inr (.inr (.inr _)))), .inr (u, k, 2) => Nat.beq t u && Nat.beq n k
  | _, _ => false
def ex_like : List ex_C → List ex_Pt → Bool
  | [], [] => true
  | c :: l, p :: r => ex_like1 c p && ex_like l r
  | _, _ => false
def ex_cell (p : ex_Pt) (c : ex_Ct) : ex_C := match p with
  | .inl o => .inl o
  | .inr (t, n, 0) => .inr (t, n, .inl c.1)
  | .inr (t, n, 1) => .inr (t, n, .inr (.inl c.2.1))
  | .inr (t, n, _) => .inr (t, n, .inr (.inr (.inr (.inr c.2.2))))
def ex_fill : List ex_Pt → (Nat → ex_Ct) → List ex_C
  | [], _ => []
  | p :: r, c => ex_cell p (c 0) :: ex_fill r (fun j => c (j + 1))
theorem ex_veq1_s {a b : Value} (h : ex_veq1 a b = true) : a = b := by
  unfold ex_veq1 at h
  split at h
  · rw [ex_v_inj.mp (Nat.eq_of_beq_eq_true h)]
  · rename_i x y
    have h1 := Nat.eq_of_beq_eq_true h
    congr 1
    obtain ⟨⟨⟨x⟩⟩⟩ := x
    obtain ⟨⟨⟨y⟩⟩⟩ := y
    have h2 : x = y := Fin.eq_of_val_eq h1
    rw [h2]
  · rw [Nat.eq_of_beq_eq_true h]
  · rfl
  · cases h
theorem ex_veq_s : ∀ {a b : List Value}, ex_veq a b = true → a = b := by
  intro a
  induction a with
  | nil =>
    intro b h
    cases b with
    | nil => rfl
    | cons b r => cases h
  | cons x l ih =>
    intro b h
    cases b with
    | nil => cases h
    | cons b r =>
      have h : (ex_veq1 x b && ex_veq l r) = true := h
      rw [Bool.and_eq_true] at h
      rw [ex_veq1_s h.1, ih h.2]
theorem ex_like1_s {c : ex_C} {p : ex_Pt} (h : ex_like1 c p = true) : ∃ k, c = ex_cell p k := by
  unfold ex_like1 at h
  split at h
  · rw [Bool.and_eq_true] at h
    rw [Nat.eq_of_beq_eq_true h.1, ex_veq_s h.2]
    exact ⟨(fun _ => 0, fun _ => 0, fun _ => none), rfl⟩
  · rename_i t n f u k
    rw [Bool.and_eq_true] at h
    rw [Nat.eq_of_beq_eq_true h.1, Nat.eq_of_beq_eq_true h.2]
    exact ⟨(f, fun _ => 0, fun _ => none), rfl⟩
  · rename_i t n f u k
    rw [Bool.and_eq_true] at h
    rw [Nat.eq_of_beq_eq_true h.1, Nat.eq_of_beq_eq_true h.2]
    exact ⟨(fun _ => 0, f, fun _ => none), rfl⟩
  · rename_i t n f u k
    rw [Bool.and_eq_true] at h
    rw [Nat.eq_of_beq_eq_true h.1, Nat.eq_of_beq_eq_true h.2]
    exact ⟨(fun _ => 0, fun _ => 0, f), rfl⟩
  · cases h
theorem ex_like_s : ∀ {l : List ex_C} {p : List ex_Pt}, ex_like l p = true → ∃ k, l = ex_fill p k := by
  intro l
  induction l with
  | nil =>
    intro p h
    cases p with
    | nil => exact ⟨fun _ => (fun _ => 0, fun _ => 0, fun _ => none), rfl⟩
    | cons b r => cases h
  | cons x l ih =>
    intro p h
    cases p with
    | nil => cases h
    | cons b r =>
      have h : (ex_like1 x b && ex_like l r) = true := h
      rw [Bool.and_eq_true] at h
      obtain ⟨k1, e1⟩ := ex_like1_s h.1
      obtain ⟨k2, e2⟩ := ih h.2
      refine ⟨fun j => match j with | 0 => k1 | j + 1 => k2 j, ?_⟩
      rw [e1, e2]
      rfl
/-- a run that ends without an answer, and leaves what looks so -/
noncomputable def ex_ends (r : Option (Option Value × ex_H)) (p : List ex_Pt) (n : Nat) : Bool := match r with
  | some (none, h) => ex_like h.1 p && Nat.beq h.2 n
  | _ => false
theorem ex_ends_s {r : Option (Option Value × ex_H)} {p : List ex_Pt} {n : Nat} (h : ex_ends r p n = true) : ∃ k, r = some (none, (ex_fill p k, n)) := by
  unfold ex_ends at h
  split at h
  · rename_i h0
    rw [Bool.and_eq_true] at h
    obtain ⟨k, e⟩ := ex_like_s h.1
    refine ⟨k, ?_⟩
    rw [← e, ← Nat.eq_of_beq_eq_true h.2]
  · cases h

def ex_pA : List ex_Pt := [.inl (11, [.ref 149, .int 0, .ref 150, .ref 157, .ref 167, .ref 182, .ref 185, .ref 190, .ref 195, .ref 208, .ref 209, .ref 218, .int (-1), .int 0, .int 0, .int 0, .int (-1), .int 0, .int (-1)]),
  .inr (1, 8000, 0),
  .inl (7, [.ref 151, .ref 152, .ref 153, .ref 154, .ref 155, .ref 156, .int 41, .int 8512, .int 41]),
  .inr (0, 16564, 0),
  .inr (0, 16564, 0),
  .inr (0, 16564, 0),
  .inr (0, 16564, 0),
  .inr (0, 16564, 0),
  .inr (1, 108612, 0),
  .inl (8, [.ref 150, .ref 158, .ref 159, .ref 160, .ref 161, .ref 162, .ref 163, .ref 164, .ref 165, .ref 166, .int 0, .int 0, .int 0, .int 0, .int 0]),
  .inr (0, 200, 0),
  .inr (0, 200, 0),
  .inr (0, 200, 0),
  .inr (0, 200, 0),
  .inr (0, 200, 0),
  .inr (0, 200, 0),
  .inr (2, 200, 0),
  .inr (2, 200, 0),
  .inr (1, 40000, 0),
  .inl (5, [.ref 150, .ref 156, .ref 168, .int 0, .int 0, .int 0, .int 0, .int 0, .int 0, .int 0, .int 0, .int 0, .int 0, .int 0, .int 0, .int 0, .int 0, .int 0]),
  .inr (1, 0, 0),
  .inl (1, [.ref 150, .ref 170, .ref 178, .ref 179, .ref 180, .ref 181, .int 0, .ref 178, .int 0]),
  .inl (2, [.ref 171, .ref 172, .ref 173, .ref 174, .ref 175, .ref 176, .ref 177, .int 0, .int 0, .ref 177, .int 0, .int 0, .int 0, .int 0, .int 0]),
  .inr (0, 320, 0),
  .inr (0, 16, 0),
  .inr (0, 288, 0),
  .inr (0, 16, 0),
  .inr (0, 32, 0),
  .inr (0, 16, 0),
  .inr (1, 0, 0),
  .inr (1, 8000, 0),
  .inr (1, 8000, 0),
  .inr (2, 3, 0),
  .inr (0, 3, 0),
  .inl (6, [.ref 167, .ref 150, .ref 157, .ref 169, .ref 183, .ref 184, .int 0, .int 0, .int 0, .int 0, .int 0, .int 0, .int 0]),
  .inr (0, 10, 0),
  .inr (0, 3, 0),
  .inl (3, [.ref 186, .int 0, .ref 167, .ref 150, .ref 157, .ref 169, .ref 187, .ref 188, .ref 189, .int 0]),
  .inr (1, 8000, 0),
  .inr (0, 200, 0),
  .inr (0, 200, 0),
  .inr (0, 200, 0),
  .inl (9, [.ref 167, .ref 157, .ref 150, .ref 191, .ref 192, .ref 193, .ref 194, .int 0, .int 0]),
  .inr (0, 60, 0),
  .inr (0, 200, 0),
  .inr (2, 200, 0),
  .inr (1, 0, 0),
  .inl (4, [.ref 157, .ref 150, .ref 190, .ref 196, .ref 198, .ref 199, .ref 200, .ref 201, .ref 202, .ref 203, .ref 204, .ref 205, .ref 206, .ref 207, .int 0, .int 0, .int 0, .int 0, .int 0]),
  .inl (5, [.ref 150, .ref 156, .ref 197, .int 0, .int 0, .int 0, .int 0, .int 0, .int 0, .int 0, .int 0, .int 0, .int 0, .int 0, .int 0, .int 0, .int 0, .int 0]),
  .inr (1, 0, 0),
  .inr (1, 40000, 0),
  .inr (0, 12, 0),
  .inr (0, 240, 0),
  .inr (0, 6, 0),
  .inr (0, 6, 0),
  .inr (0, 6, 0),
  .inr (0, 6, 0),
  .inr (0, 256, 0),
  .inr (0, 40, 0),
  .inr (0, 7500, 0),
  .inl (0, [.ref 157, .ref 150, .ref 190]),
  .inl (10, [.ref 157, .ref 150, .ref 210, .int 0, .int 0, .int 0, .ref 211, .ref 212, .ref 213, .int 0, .ref 214, .ref 215, .int 0, .int 0, .int 0, .ref 216, .ref 217, .int 0]),
  .inr (1, 30000, 0),
  .inr (0, 200, 0),
  .inr (0, 200, 0),
  .inr (0, 200, 0),
  .inr (1, 1400, 0),
  .inr (1, 9216, 0),
  .inr (0, 4096, 0),
  .inr (0, 8000, 0),
  .inr (0, 25, 0)]
def ex_pB : List ex_Pt := [.inl (11, [.ref 149, .int 0, .ref 150, .ref 157, .ref 167, .ref 182, .ref 185, .ref 190, .ref 195, .ref 208, .ref 209, .ref 218, .int (-1), .int 0, .int 0, .int 0, .int (-1), .int 0, .int (-1)]),
  .inr (1, 8000, 0),
  .inl (7, [.ref 151, .ref 152, .ref 153, .ref 154, .ref 155, .ref 156, .int 41, .int 8512, .int 41]),
  .inr (0, 16564, 0),
  .inr (0, 16564, 0),
  .inr (0, 16564, 0),
  .inr (0, 16564, 0),
  .inr (0, 16564, 0),
  .inr (1, 108612, 0),
  .inl (8, [.ref 150, .ref 158, .ref 159, .ref 160, .ref 161, .ref 162, .ref 163, .ref 164, .ref 165, .ref 166, .int 0, .int 0, .int 0, .int 0, .int 0]),
  .inr (0, 200, 0),
  .inr (0, 200, 0),
  .inr (0, 200, 0),
  .inr (0, 200, 0),
  .inr (0, 200, 0),
  .inr (0, 200, 0),
  .inr (2, 200, 0),
  .inr (2, 200, 0),
  .inr (1, 40000, 0),
  .inl (5, [.ref 150, .ref 156, .ref 168, .int 0, .int 0, .int 0, .int 0, .int 0, .int 0, .int 0, .int 0, .int 0, .int 0, .int 0, .int 0, .int 0, .int 0, .int 0]),
  .inr (1, 0, 0),
  .inl (1, [.ref 150, .ref 170, .ref 178, .ref 179, .ref 180, .ref 181, .int 0, .ref 178, .int 0]),
  .inl (2, [.ref 171, .ref 172, .ref 173, .ref 174, .ref 175, .ref 176, .ref 177, .int 0, .int 0, .ref 177, .int 0, .int 0, .int 0, .int 0, .int 0]),
  .inr (0, 320, 0),
  .inr (0, 16, 0),
  .inr (0, 288, 0),
  .inr (0, 16, 0),
  .inr (0, 32, 0),
  .inr (0, 16, 0),
  .inr (1, 0, 0),
  .inr (1, 8000, 0),
  .inr (1, 8000, 0),
  .inr (2, 3, 0),
  .inr (0, 3, 0),
  .inl (6, [.ref 167, .ref 150, .ref 157, .ref 169, .ref 183, .ref 184, .int 0, .int 0, .int 0, .int 0, .int 0, .int 0, .int 0]),
  .inr (0, 10, 0),
  .inr (0, 3, 0),
  .inl (3, [.ref 186, .int 0, .ref 167, .ref 150, .ref 157, .ref 169, .ref 187, .ref 188, .ref 189, .int 0]),
  .inr (1, 8000, 0),
  .inr (0, 200, 0),
  .inr (0, 200, 0),
  .inr (0, 200, 0),
  .inl (9, [.ref 167, .ref 157, .ref 150, .ref 191, .ref 192, .ref 193, .ref 194, .int 0, .int 0]),
  .inr (0, 60, 0),
  .inr (0, 200, 0),
  .inr (2, 200, 0),
  .inr (1, 0, 0),
  .inl (4, [.ref 157, .ref 150, .ref 190, .ref 196, .ref 198, .ref 199, .ref 200, .ref 201, .ref 202, .ref 203, .ref 204, .ref 205, .ref 206, .ref 207, .int 0, .int 0, .int 0, .int 0, .int 0]),
  .inl (5, [.ref 150, .ref 156, .ref 197, .int 0, .int 0, .int 0, .int 0, .int 0, .int 0, .int 0, .int 0, .int 0, .int 0, .int 0, .int 0, .int 0, .int 0, .int 0]),
  .inr (1, 0, 0),
  .inr (1, 40000, 0),
  .inr (0, 12, 0),
  .inr (0, 240, 0),
  .inr (0, 6, 0),
  .inr (0, 6, 0),
  .inr (0, 6, 0),
  .inr (0, 6, 0),
  .inr (0, 256, 0),
  .inr (0, 40, 0),
  .inr (0, 7500, 0),
  .inl (0, [.ref 157, .ref 150, .ref 190]),
  .inl (10, [.ref 157, .ref 150, .ref 210, .int 0, .int 0, .int 0, .ref 211, .ref 212, .ref 213, .int 0, .ref 214, .ref 215, .int 0, .int 0, .int 0, .ref 216, .ref 217, .int 0]),
  .inr (1, 30000, 0),
  .inr (0, 200, 0),
  .inr (0, 200, 0),
  .inr (0, 200, 0),
  .inr (1, 1400, 0),
  .inr (1, 9216, 0),
  .inr (0, 4096, 0),
  .inr (0, 8000, 0),
  .inr (0, 25, 0),
  .inl (12, [.ref 220, .int 0, .ref 221, .int 0, .ref 222, .int 0, .int 0, .ref 223, .ref 224, .ref 225, .ref 226, .ref 227, .ref 228, .ref 229, .ref 230, .int 0, .ref 231, .int 0, .null, .int 0, .int 0, .int 0, .int 0, .int 0, .int 0, .int 0, .int 0, .int 0, .int 0, .int 0, .int 0, .int 0, .int 0, .ref 232, .int 0, .ref 233, .ref 234, .int 0, .int 0, .int 0, .int 0, .ref 235, .ref 236, .ref 237, .ref 238, .ref 239, .ref 240, .ref 241, .ref 242, .ref 243, .ref 244, .ref 245, .ref 246, .ref 247, .ref 248, .ref 249, .ref 250, .ref 251, .ref 252, .ref 253, .int 0, .int 0, .ref 254, .int 0, .int 0, .int 0, .int 0, .int 0, .int 0, .int (-1), .int 0, .int (-1), .ref 255, .ref 256, .ref 257, .int 0, .ref 258, .int 0, .long 0, .int 0, .int 0, .int 0, .int 0, .int 0, .int 0, .ref 259, .ref 260, .ref 261, .int (-1), .int 0, .ref 262, .ref 263, .int 0, .ref 264, .int 0, .ref 265, .ref 266, .ref 267, .ref 268, .ref 269, .ref 270, .ref 271, .int 0, .int 0, .int 0, .ref 272, .int 0, .int 0, .ref 273, .int 0, .ref 274, .ref 275, .int 0, .ref 276, .ref 277, .int 0, .int 0, .ref 278, .ref 279, .ref 280, .int 0]),
  .inr (1, 8000, 0),
  .inr (1, 8000, 0),
  .inr (1, 30100, 0),
  .inr (1, 40000, 0),
  .inr (0, 40000, 0),
  .inr (0, 40000, 0),
  .inr (0, 40000, 0),
  .inr (0, 40000, 0),
  .inr (0, 40000, 0),
  .inr (0, 40000, 0),
  .inr (0, 40000, 0),
  .inr (1, 150000, 0),
  .inr (1, 57000, 0),
  .inr (1, 8200, 0),
  .inr (1, 8200, 0),
  .inr (0, 320, 0),
  .inr (0, 16, 0),
  .inr (0, 288, 0),
  .inr (0, 16, 0),
  .inr (0, 32, 0),
  .inr (0, 16, 0),
  .inr (0, 340, 0),
  .inr (1, 200, 0),
  .inr (3, 200, 1),
  .inr (3, 200, 1),
  .inr (2, 200, 0),
  .inr (0, 200, 0),
  .inr (1, 200, 0),
  .inr (2, 200, 0),
  .inr (0, 200, 0),
  .inr (0, 200, 0),
  .inr (2, 200, 0),
  .inr (2, 200, 0),
  .inr (2, 200, 0),
  .inr (3, 12, 1),
  .inr (1, 200, 0),
  .inr (3, 200, 1),
  .inr (3, 200, 1),
  .inr (0, 3, 0),
  .inr (0, 61, 0),
  .inr (0, 200, 0),
  .inr (2, 200, 0),
  .inr (0, 26, 0),
  .inr (1, 40100, 0),
  .inr (0, 40, 0),
  .inr (0, 6, 0),
  .inr (0, 6, 0),
  .inr (0, 6, 0),
  .inr (0, 6, 0),
  .inr (3, 6, 1),
  .inr (0, 9, 0),
  .inr (0, 300, 0),
  .inr (0, 7500, 0),
  .inr (4, 47, 2),
  .inr (0, 200, 0),
  .inr (0, 200, 0),
  .inr (0, 201, 0),
  .inr (1, 50000, 0),
  .inr (0, 4096, 0),
  .inr (0, 57000, 0),
  .inr (1, 1400, 0)]
/-- the class: what its constructor leaves -/
theorem ex_ctorA0 : ex_ends (ex_runF ex_g0 ex_Q0 1000000 20 26 [.ref 148] ([.inl (11, (ex_ft 11).map defaultValue)], 19)) ex_pA 368383 = true := by decide +kernel
