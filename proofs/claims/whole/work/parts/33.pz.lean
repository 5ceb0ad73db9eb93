/-! a price, step by step -/
theorem pz_no {a b : Nat → Nat} {i j z1 z2 z3 : Nat} (hi : i ≤ 10) (h0 : 0 < i ∨ 0 < j) (hz1 : (0 < j → z1 = pr a b i (j - 1) + 2) ∧ (j = 0 → z1 = 1000)) (hz2 : (0 < i → z2 = min z1 (pr a b (i - 1) j + delp a (i - 1))) ∧ (i = 0 → z2 = z1))
    (hz3 : (0 < i ∧ 0 < j → z3 = min z2 (pr a b (i - 1) (j - 1) + repp (a (i - 1)) (b (j - 1)))) ∧ (i = 0 ∨ j = 0 → z3 = z2)) (hno : ¬ exch a b (i - 1) (j - 1)) : z3 = pr a b i j := by
  cases i with
  | zero =>
    have hj : 0 < j := by omega
    rw [hz3.2 (Or.inl rfl), hz2.2 rfl, hz1.1 hj, pr_0, pr_0]; omega
  | succ i =>
    cases j with
    | zero =>
      rw [hz3.2 (Or.inr rfl), hz2.1 (Nat.succ_pos _), hz1.2 rfl, pr_s0]
      have h1 := pr_le a b i 0
      have h2 := delp_le a i
      show min 1000 (pr a b i 0 + delp a i) = _
      omega
    | succ j =>
      rw [hz3.1 ⟨Nat.succ_pos _, Nat.succ_pos _⟩, hz2.1 (Nat.succ_pos _), hz1.1 (Nat.succ_pos _), pr_ss]
      have hno : ¬ exch a b i j := hno
      rw [if_neg hno]
      show min (min (pr a b (i + 1) j + 2) (pr a b i (j + 1) + delp a i)) (pr a b i j + repp (a i) (b j)) = _
      rw [Nat.min_comm (pr a b (i + 1) j + 2)]
theorem pz_yes {a b : Nat → Nat} {i j z1 z2 z3 : Nat} (hz1 : (0 < j → z1 = pr a b i (j - 1) + 2) ∧ (j = 0 → z1 = 1000)) (hz2 : (0 < i → z2 = min z1 (pr a b (i - 1) j + delp a (i - 1))) ∧ (i = 0 → z2 = z1))
    (hz3 : (0 < i ∧ 0 < j → z3 = min z2 (pr a b (i - 1) (j - 1) + repp (a (i - 1)) (b (j - 1)))) ∧ (i = 0 ∨ j = 0 → z3 = z2)) (hyes : exch a b (i - 1) (j - 1)) : min z3 (pr a b (i - 2) (j - 2) + 1) = pr a b i j := by
  cases i with
  | zero => exact absurd hyes.1 (by omega)
  | succ i =>
    cases j with
    | zero => exact absurd hyes.2.1 (by omega)
    | succ j =>
      rw [hz3.1 ⟨Nat.succ_pos _, Nat.succ_pos _⟩, hz2.1 (Nat.succ_pos _), hz1.1 (Nat.succ_pos _), pr_ss]
      have hyes : exch a b i j := hyes
      rw [if_pos hyes]
      show min (min (min (pr a b (i + 1) j + 2) (pr a b i (j + 1) + delp a i)) (pr a b i j + repp (a i) (b j))) (pr a b (i - 1) (j - 1) + 1) = _
      rw [Nat.min_comm (pr a b (i + 1) j + 2)]
theorem pz_b1 {a b : Nat → Nat} {i j z1 : Nat} (hi : i ≤ 10) (hj : j ≤ 10) (hz1 : (0 < j → z1 = pr a b i (j - 1) + 2) ∧ (j = 0 → z1 = 1000)) : z1 ≤ 1000 := by
  rcases Nat.eq_zero_or_pos j with h | h
  · rw [hz1.2 h]; exact Nat.le_refl _
  · rw [hz1.1 h]; have := pr_le a b i (j - 1); omega
theorem pz_b2 {a b : Nat → Nat} {i j z1 z2 : Nat} (h : z1 ≤ 1000) (hz2 : (0 < i → z2 = min z1 (pr a b (i - 1) j + delp a (i - 1))) ∧ (i = 0 → z2 = z1)) : z2 ≤ 1000 := by
  rcases Nat.eq_zero_or_pos i with e | e
  · rw [hz2.2 e]; exact h
  · rw [hz2.1 e]; omega
theorem pz_b3 {a b : Nat → Nat} {i j z2 z3 : Nat} (h : z2 ≤ 1000) (hz3 : (0 < i ∧ 0 < j → z3 = min z2 (pr a b (i - 1) (j - 1) + repp (a (i - 1)) (b (j - 1)))) ∧ (i = 0 ∨ j = 0 → z3 = z2)) : z3 ≤ 1000 := by
  by_cases e : 0 < i ∧ 0 < j
  · rw [hz3.1 e]; omega
  · rw [hz3.2 (by omega)]; exact h
theorem pr_bd {a b : Nat → Nat} {i j : Nat} (hi : i ≤ 10) (hj : j ≤ 10) : pr a b i j + 10 < 2 ^ 31 := by have := pr_le a b i j; omega
theorem dl_bd {a : Nat → Nat} {i : Nat} : delp a i ≤ 2 := delp_le a i
