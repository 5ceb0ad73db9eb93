/-! distances, common letters and prices of beginnings -/
def nrow (R : Nat → Nat) (co : Nat → Nat) (z : Nat) : Nat → Nat
  | 0 => z
  | j + 1 => min (R j + co j) (min (nrow R co z j + 1) (R (j + 1) + 1))
def co (a : Nat) (b : Nat → Nat) (j : Nat) : Nat := if a = b j then 0 else 1
def lev (a b : Nat → Nat) : Nat → Nat → Nat
  | 0 => fun j => j
  | i + 1 => nrow (lev a b i) (co (a i) b) (i + 1)
theorem lev_0 (a b : Nat → Nat) (j : Nat) : lev a b 0 j = j := rfl
theorem lev_s0 (a b : Nat → Nat) (i : Nat) : lev a b i 0 = i := by cases i <;> rfl
theorem lev_ss (a b : Nat → Nat) (i j : Nat) : lev a b (i + 1) (j + 1) = min (lev a b i j + co (a i) b j) (min (lev a b (i + 1) j + 1) (lev a b i (j + 1) + 1)) := rfl
theorem nrow_le (R : Nat → Nat) (c : Nat → Nat) (z : Nat) : ∀ j, nrow R c z j ≤ z + j := by
  intro j
  induction j with
  | zero => exact Nat.le_refl _
  | succ j ih => show min _ (min _ _) ≤ _; omega
theorem lev_le (a b : Nat → Nat) (i j : Nat) : lev a b i j ≤ i + j := by
  cases i with
  | zero => rw [lev_0]; omega
  | succ i => exact nrow_le _ _ _ j
theorem nrow_congr {R R' c c' : Nat → Nat} {z : Nat} : ∀ {j : Nat}, (∀ k, k ≤ j → R k = R' k) → (∀ k, k < j → c k = c' k) → nrow R c z j = nrow R' c' z j := by
  intro j
  induction j with
  | zero => intros; rfl
  | succ j ih =>
    intro h1 h2
    show min _ (min _ _) = min _ (min _ _)
    rw [ih (fun k hk => h1 k (by omega)) (fun k hk => h2 k (by omega)), h1 j (by omega), h1 (j + 1) (by omega), h2 j (by omega)]
theorem lev_congr {a a' b b' : Nat → Nat} : ∀ {i j : Nat}, (∀ k, k < i → a k = a' k) → (∀ k, k < j → b k = b' k) → lev a b i j = lev a' b' i j := by
  intro i
  induction i with
  | zero => intros; rfl
  | succ i ih =>
    intro j h1 h2
    refine nrow_congr (fun k hk => ih (fun q hq => h1 q (by omega)) (fun q hq => h2 q (by omega))) (fun k hk => ?_)
    unfold co; rw [h1 i (by omega), h2 k hk]
theorem lev_sym (a b : Nat → Nat) : ∀ i j, lev a b i j = lev b a j i := by
  intro i
  induction i with
  | zero => intro j; rw [lev_0, lev_s0]
  | succ i ih =>
    intro j
    induction j with
    | zero => rw [lev_s0, lev_0]
    | succ j ih2 =>
      rw [lev_ss, lev_ss, ih j, ih2, ih (j + 1)]
      have : co (a i) b j = co (b j) a i := by unfold co; by_cases h : a i = b j <;> simp [h, eq_comm]
      rw [this]
      omega
def lrow (R : Nat → Nat) (a : Nat) (b : Nat → Nat) : Nat → Nat
  | 0 => 0
  | j + 1 => if a = b j then R j + 1 else max (R (j + 1)) (lrow R a b j)
/-- the length of the longest common subsequence -/
def lcs (a b : Nat → Nat) : Nat → Nat → Nat
  | 0 => fun _ => 0
  | i + 1 => lrow (lcs a b i) (a i) b
theorem lcs_0 (a b : Nat → Nat) (j : Nat) : lcs a b 0 j = 0 := rfl
theorem lcs_s0 (a b : Nat → Nat) (i : Nat) : lcs a b i 0 = 0 := by cases i <;> rfl
theorem lcs_ss (a b : Nat → Nat) (i j : Nat) : lcs a b (i + 1) (j + 1) = if a i = b j then lcs a b i j + 1 else max (lcs a b i (j + 1)) (lcs a b (i + 1) j) := rfl
theorem lcs_le (a b : Nat → Nat) : ∀ i j, lcs a b i j ≤ i := by
  intro i
  induction i with
  | zero => intro j; exact Nat.le_refl _
  | succ i ih =>
    intro j
    induction j with
    | zero => rw [lcs_s0]; omega
    | succ j ih2 => rw [lcs_ss]; have := ih j; have := ih (j + 1); split <;> omega
/-- keys of a keyboard: neighbours -/
def kro : List Nat := [9, 1, 2, 2, 1, 0, 1, 1, 1, 0, 1, 1, 1, 2, 2, 0, 0, 0, 0, 1, 0, 0, 2, 0, 2, 0, 2]
def kpl : List Nat := [9, 0, 4, 2, 2, 2, 3, 4, 5, 7, 6, 7, 8, 6, 5, 8, 9, 0, 3, 1, 4, 6, 3, 1, 1, 5, 0]
abbrev nbr (x y : Nat) : Prop := (kro.getD x 9 = kro.getD y 9 ∧ (kpl.getD y 9 = kpl.getD x 9 + 1 ∨ kpl.getD x 9 = kpl.getD y 9 + 1)) ∨ (kro.getD y 9 = kro.getD x 9 + 1 ∧ (kpl.getD y 9 = kpl.getD x 9 ∨ kpl.getD y 9 + 1 = kpl.getD x 9)) ∨ (kro.getD x 9 = kro.getD y 9 + 1 ∧ (kpl.getD y 9 = kpl.getD x 9 ∨ kpl.getD y 9 = kpl.getD x 9 + 1))
theorem kro_lt (x : Nat) : kro.getD x 9 < 10 := by
  by_cases h : x < 27
  · revert x; decide
  · have h2 : kro[x]? = none := List.getElem?_eq_none (by show kro.length ≤ x; have : kro.length = 27 := rfl; omega)
    rw [List.getD_eq_getElem?_getD, h2]; decide
theorem kpl_lt (x : Nat) : kpl.getD x 9 < 10 := by
  by_cases h : x < 27
  · revert x; decide
  · have h2 : kpl[x]? = none := List.getElem?_eq_none (by show kpl.length ≤ x; have : kpl.length = 27 := rfl; omega)
    rw [List.getD_eq_getElem?_getD, h2]; decide
theorem q_d0 : ∀ {a : Nat}, a < 10 → ∀ {b : Nat}, b < 10 → (nI a - nI b = 0 ↔ a = b) := by decide
theorem q_d1 : ∀ {a : Nat}, a < 10 → ∀ {b : Nat}, b < 10 → (nI a - nI b = nI 1 ↔ a = b + 1) := by decide
theorem q_dm : ∀ {a : Nat}, a < 10 → ∀ {b : Nat}, b < 10 → (nI a - nI b = (-1) ↔ a + 1 = b) := by decide
def delp (a : Nat → Nat) (i : Nat) : Nat := if 1 ≤ i ∧ a i = a (i - 1) then 1 else 2
def repp (x y : Nat) : Nat := if x = y then 0 else if nbr x y then 1 else 3
abbrev exch (a b : Nat → Nat) (i j : Nat) : Prop := 1 ≤ i ∧ 1 ≤ j ∧ a (i - 1) ≠ a i ∧ a (i - 1) = b j ∧ a i = b (j - 1)
def prow (a b : Nat → Nat) (i : Nat) (Q P : Nat → Nat) : Nat → Nat
  | 0 => P 0 + delp a i
  | j + 1 => let v := min (min (P (j + 1) + delp a i) (prow a b i Q P j + 2)) (P j + repp (a i) (b j)); if exch a b i j then min v (Q (j - 1) + 1) else v
def pr2 (a b : Nat → Nat) : Nat → (Nat → Nat) × (Nat → Nat)
  | 0 => (fun _ => 0, fun j => 2 * j)
  | i + 1 => ((pr2 a b i).2, prow a b i (pr2 a b i).1 (pr2 a b i).2)
/-- the price of a beginning for a beginning -/
def pr (a b : Nat → Nat) (i : Nat) : Nat → Nat := (pr2 a b i).2
theorem pr_0 (a b : Nat → Nat) (j : Nat) : pr a b 0 j = 2 * j := rfl
theorem pr_s0 (a b : Nat → Nat) (i : Nat) : pr a b (i + 1) 0 = pr a b i 0 + delp a i := rfl
theorem pr_ss (a b : Nat → Nat) (i j : Nat) : pr a b (i + 1) (j + 1) = if exch a b i j then min (min (min (pr a b i (j + 1) + delp a i) (pr a b (i + 1) j + 2)) (pr a b i j + repp (a i) (b j))) (pr a b (i - 1) (j - 1) + 1) else min (min (pr a b i (j + 1) + delp a i) (pr a b (i + 1) j + 2)) (pr a b i j + repp (a i) (b j)) := by
  cases i with
  | zero =>
    have : ¬ exch a b 0 j := fun h => by have := h.1; omega
    rw [if_neg this]
    show prow a b 0 _ _ (j + 1) = _
    rw [prow]; simp only [if_neg this]; rfl
  | succ i => rfl
theorem delp_le (a : Nat → Nat) (i : Nat) : delp a i ≤ 2 := by unfold delp; split <;> omega
theorem repp_le (x y : Nat) : repp x y ≤ 3 := by unfold repp; split; omega; split <;> omega
theorem pr_le (a b : Nat → Nat) : ∀ i j, pr a b i j ≤ 2 * i + 2 * j := by
  intro i
  induction i with
  | zero => intro j; rw [pr_0]; omega
  | succ i ih =>
    intro j
    induction j with
    | zero => rw [pr_s0]; have := ih 0; have := delp_le a i; omega
    | succ j ih2 => rw [pr_ss]; have := ih (j + 1); have := delp_le a i; split <;> omega
