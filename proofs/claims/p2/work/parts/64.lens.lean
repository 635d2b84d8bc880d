/-! ===== a text has no more bytes than the window that it was read of ===== -/
theorem u_n_len (W : Int → Int) : ∀ (k : Nat) (p : Int) (l : List Int), p + (u_n W k p l).2.2.length ≤ (u_n W k p l).2.1 + l.length := by
  intro k
  induction k with
  | zero => intro p l; show p + (l.length : Int) ≤ p + l.length; omega
  | succ k ih =>
    intro p l
    have h1 := ih (p + 3) (l ++ [u_v W p])
    have h2 := ih (p + 1) (l ++ [W p])
    have e1 := t_len l (u_v W p)
    have e2 := t_len l (W p)
    unfold u_n
    split
    · split
      · split
        · show p + (l.length : Int) ≤ p + l.length; omega
        · omega
      · omega
    · show p + (l.length : Int) ≤ p + l.length; omega
theorem u_x_len (W : Int → Int) : ∀ (k : Nat) (p h : Int) (l : List Int), p + (u_x W k p h l).2.2.length ≤ (u_x W k p h l).2.1 + l.length := by
  intro k
  induction k with
  | zero => intro p h l; show p + (l.length : Int) ≤ p + l.length; omega
  | succ k ih =>
    intro p h l
    have h1 := ih (p + 1) h l
    have h2 := ih (p + 1) (h_x (W p)) l
    have h3 := ih (p + 1) (-1) (l ++ [h * 16 + h_x (W p)])
    have e1 := t_len l (h * 16)
    have e3 := t_len l (h * 16 + h_x (W p))
    unfold u_x
    split
    · show p + (l.length : Int) ≤ p + l.length; omega
    · split
      · split
        · show p + (l.length : Int) ≤ p + 1 + l.length; omega
        · show p + ((l ++ [h * 16]).length : Int) ≤ p + 1 + l.length; omega
      · split
        · split
          · omega
          · show p + (l.length : Int) ≤ p + l.length; omega
        · split
          · omega
          · omega
