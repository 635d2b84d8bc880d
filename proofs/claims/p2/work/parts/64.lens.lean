/-! ===== a text has no more bytes than the window that it was read of ===== -/
theorem u_n_len (W : Int → Int) : ∀ (k : Nat) (p : Int) (l : List Int), p + (u_n W k p l).2.2.length ≤ (u_n W k p l).2.1 + l.length := by
  intro k
  induction k with
  | zero => intro p l; show p + (l.length : Int) ≤ p + l.length; omega
  | succ k ih =>
    intro p l
    have h1 := ih (p + 3) (l ++ [u_v W p])
    have h2 := ih (p + 1) (l ++ [W p])
    have e1 := t_len l (u_v W p)
    have e2 := t_len l (W p)
    unfold u_n
    split
    · split
      · split
        · show p + (l.length : Int) ≤ p + l.length; omega
        · omega
      · omega
    · show p + (l.length : Int) ≤ p + l.length; omega
theorem u_x_len (W : Int → Int) : ∀ (k : Nat) (p h : Int) (l : List Int), p + (u_x W k p h l).2.2.length ≤ (u_x W k p h l).2.1 + l.length := by
  intro k
  induction k with
  | zero => intro p h l; show p + (l.length : Int) ≤ p + l.length; omega
  | succ k ih =>
    intro p h l
    have h1 := ih (p + 1) h l
    have h2 := ih (p + 1) (h_x (W p)) l
    have h3 := ih (p + 1) (-1) (l ++ [h * 16 + h_x (W p)])
    have e1 := t_len l (h * 16)
    have e3 := t_len l (h * 16 + h_x (W p))
    unfold u_x
    split
    · show p + (l.length : Int) ≤ p + l.length; omega
    · split
      · split
        · show p + (l.length : Int) ≤ p + 1 + l.length; omega
        · show p + ((l ++ [h * 16]).length : Int) ≤ p + 1 + l.length; omega
      · split
        · split
          · omega
          · show p + (l.length : Int) ≤ p + l.length; omega
        · split
          · omega
          · omega
theorem u_o_ge (W : Int → Int) : ∀ (k : Nat) (p v : Int), p ≤ (u_o W k p v).1 := by
  intro k
  induction k with
  | zero => intro p v; exact Int.le_refl p
  | succ k ih =>
    intro p v
    have := ih (p + 1) (v * 8 + (W p - 48))
    unfold u_o
    split
    · omega
    · exact Int.le_refl p
theorem u_e_len (W : Int → Int) (p : Int) : p + (u_e W p).2.length ≤ (u_e W p).1 := by
  unfold u_e
  split
  · show p + ((1 : Nat) : Int) ≤ p + 1; omega
  · split
    · rename_i z
      have e : u_o W 3 p 0 = u_o W 2 (p + 1) (0 * 8 + (W p - 48)) := if_pos z
      have := u_o_ge W 2 (p + 1) (0 * 8 + (W p - 48))
      rw [← e] at this
      show p + ((1 : Nat) : Int) ≤ (u_o W 3 p 0).1
      omega
    · split
      · split
        · show p + ((0 : Nat) : Int) ≤ p + 2; omega
        · show p + ((0 : Nat) : Int) ≤ p + 1; omega
      · split
        · show p + ((0 : Nat) : Int) ≤ p + 1; omega
        · show p + ((0 : Nat) : Int) ≤ p; omega
theorem u_r_len (W : Int → Int) : ∀ (k : Nat) (p D : Int) (l : List Int), p + (u_r W k p D l).2.2.length ≤ (u_r W k p D l).2.1 + l.length := by
  intro k
  induction k with
  | zero => intro p D l; show p + (l.length : Int) ≤ p + l.length; omega
  | succ k ih =>
    intro p D l
    have h1 := ih (u_e W (p + 1)).1 D (l ++ (u_e W (p + 1)).2)
    have h2 := ih (if W (p + 1) = 10 then p + 2 else p + 1) D (l ++ [10])
    have h3 := ih (p + 1) (if W p = 40 then D + 1 else if W p = 41 then D - 1 else D) (l ++ [W p])
    have e1 := t_app2 l (u_e W (p + 1)).2
    have e2 := t_len l 10
    have e3 := t_len l (W p)
    have e4 := u_e_len W (p + 1)
    have e5 : p + 1 ≤ (if W (p + 1) = 10 then p + 2 else p + 1) := by split <;> omega
    unfold u_r
    split
    · show p + (l.length : Int) ≤ p + l.length; omega
    · split
      · omega
      · split
        · omega
        · split
          · show p + (l.length : Int) ≤ p + 1 + l.length; omega
          · omega
