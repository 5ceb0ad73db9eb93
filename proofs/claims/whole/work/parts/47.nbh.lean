/-! neighbourhoods, as the reference lays them -/
/-- without the letters at two places, counted from 1; 0 for none -/
def wof (n p q : Nat) : Nat → Nat
  | 0 => 0
  | t + 1 => if t + 1 = p ∨ t + 1 = q then wof n p q t else 32 * wof n p q t + beg n (t + 1) % 32
theorem wof_lt (n p q : Nat) : ∀ t, wof n p q t < 32 ^ t := by
  intro t
  induction t with
  | zero => show (0 : Nat) < 1; omega
  | succ t ih => rw [Nat.pow_succ]; unfold wof; split <;> omega
theorem wof_50 {n p q t : Nat} (h : t ≤ 10) : wof n p q t < 2 ^ 50 := by
  have h1 := wof_lt n p q t
  have h2 : 32 ^ t ≤ 32 ^ 10 := Nat.pow_le_pow_right (by decide) h
  have h3 : (32 : Nat) ^ 10 = 2 ^ 50 := by decide
  omega
def lsd (n p : Nat) (L : List Nat) : Nat → List Nat
  | 0 => L
  | s + 1 => ins (lsd n p L s) (wof n p (p + s) (wl n))
def scn (k n p : Nat) : Nat := if 1 < k then wl n + 1 - p else 1
def lpl (k n : Nat) : Nat → List Nat
  | 0 => []
  | p + 1 => lsd n p (lpl k n p) (scn k n p)
/-- the neighbourhood of a word -/
def nbl (k n : Nat) : List Nat := lpl k n (if 0 < k then wl n + 1 else 1)
theorem lsd_len (n p : Nat) (L : List Nat) : ∀ s, List.length (lsd n p L s) ≤ List.length L + s := by
  intro s
  induction s with
  | zero => exact Nat.le_refl _
  | succ s ih => have := ins_len (lsd n p L s) (wof n p (p + s) (wl n)); show List.length (ins _ _) ≤ _; omega
theorem lsd_bnd {n : Nat} (hw : wl n ≤ 10) (p : Nat) {L : List Nat} (h : ∀ j, j < List.length L → List.getD L j 0 < 2 ^ 50) : ∀ s, ∀ j, j < List.length (lsd n p L s) → List.getD (lsd n p L s) j 0 < 2 ^ 50 := by
  intro s
  induction s with
  | zero => exact h
  | succ s ih => exact ins_bnd ih (wof_50 hw)
theorem lpl_bnd {k n : Nat} (hw : wl n ≤ 10) : ∀ p, ∀ j, j < List.length (lpl k n p) → List.getD (lpl k n p) j 0 < 2 ^ 50 := by
  intro p
  induction p with
  | zero => intro j hj; exact absurd hj (Nat.not_lt_zero _)
  | succ p ih => exact lsd_bnd hw p ih _
