/-! distances are distances: the triangle, what is in common, prices beside them -/
theorem lcs_st (a b : Nat → Nat) : ∀ s i j, i + j ≤ s → (lcs a b i j ≤ lcs a b i (j + 1) ∧ lcs a b i (j + 1) ≤ lcs a b i j + 1) ∧ lcs a b i j ≤ lcs a b (i + 1) j ∧ lcs a b (i + 1) j ≤ lcs a b i j + 1 := by
  intro s
  induction s with
  | zero =>
    intro i j h
    obtain ⟨rfl, rfl⟩ : i = 0 ∧ j = 0 := by omega
    rw [lcs_0, lcs_0, lcs_s0]
    omega
  | succ s ih =>
    intro i j h
    constructor
    · cases i with
      | zero => rw [lcs_0, lcs_0]; omega
      | succ i =>
        have h1 := ih i j (by omega)
        rw [lcs_ss]
        split <;> omega
    · cases j with
      | zero => rw [lcs_s0, lcs_s0]; omega
      | succ j =>
        have h1 := ih i j (by omega)
        rw [lcs_ss]
        split <;> omega
theorem lcs_le2 (a b : Nat → Nat) : ∀ i j, lcs a b i j ≤ j := by
  intro i
  induction i with
  | zero => intro j; rw [lcs_0]; omega
  | succ i ih =>
    intro j
    induction j with
    | zero => rw [lcs_s0]; omega
    | succ j ih2 => rw [lcs_ss]; have := ih j; have := ih (j + 1); split <;> omega
theorem co_01 (x : Nat) (b : Nat → Nat) (j : Nat) : (co x b j = 0 ∧ x = b j) ∨ (co x b j = 1 ∧ x ≠ b j) := by
  unfold co
  by_cases h : x = b j
  · exact Or.inl ⟨if_pos h, h⟩
  · exact Or.inr ⟨if_neg h, h⟩
/-- a longer word is at most by their distance longer than what is in common -/
theorem lev_lcs (a b : Nat → Nat) : ∀ s i j, i + j ≤ s → i ≤ lcs a b i j + lev a b i j ∧ j ≤ lcs a b i j + lev a b i j := by
  intro s
  induction s with
  | zero =>
    intro i j h
    omega
  | succ s ih =>
    intro i j h
    cases i with
    | zero => rw [lcs_0, lev_0]; omega
    | succ i =>
      cases j with
      | zero => rw [lcs_s0, lev_s0]; omega
      | succ j =>
        have h1 := ih i j (by omega)
        have h2 := ih (i + 1) j (by omega)
        have h3 := ih i (j + 1) (by omega)
        have h4 := lcs_st a b _ i j (Nat.le_refl _)
        rw [lev_ss, lcs_ss]
        rcases co_01 (a i) b j with ⟨h5, h6⟩ | ⟨h5, h6⟩
        · rw [if_pos h6, h5]; omega
        · rw [if_neg h6, h5]; omega
theorem lev_ge (a b : Nat → Nat) (i j : Nat) : i ≤ j + lev a b i j ∧ j ≤ i + lev a b i j := by
  have h1 := lev_lcs a b _ i j (Nat.le_refl _)
  have h2 := lcs_le a b i j
  have h3 := lcs_le2 a b i j
  omega
theorem co_tri (a b c : Nat → Nat) (i j k : Nat) : co (a i) c k ≤ co (a i) b j + co (b j) c k := by
  rcases co_01 (a i) c k with ⟨h1, h2⟩ | ⟨h1, h2⟩ <;> rcases co_01 (a i) b j with ⟨h3, h4⟩ | ⟨h3, h4⟩ <;> rcases co_01 (b j) c k with ⟨h5, h6⟩ | ⟨h5, h6⟩ <;> first | omega | exact absurd (h4.trans h6) h2
theorem co_le (x : Nat) (b : Nat → Nat) (j : Nat) : co x b j ≤ 1 := by rcases co_01 x b j with h | h <;> omega
theorem lev_tri (a b c : Nat → Nat) : ∀ s i j k, i + j + k ≤ s → lev a c i k ≤ lev a b i j + lev b c j k := by
  intro s
  induction s with
  | zero =>
    intro i j k h
    obtain ⟨rfl, rfl, rfl⟩ : i = 0 ∧ j = 0 ∧ k = 0 := by omega
    rw [lev_0]; omega
  | succ s ih =>
    intro i j k h
    cases i with
    | zero => rw [lev_0, lev_0]; have := lev_ge b c j k; omega
    | succ i =>
      cases k with
      | zero => rw [lev_s0, lev_s0]; have := lev_ge a b (i + 1) j; omega
      | succ k =>
        cases j with
        | zero => rw [lev_s0, lev_0]; exact lev_le a c (i + 1) (k + 1)
        | succ j =>
          have g1 := ih i (j + 1) (k + 1) (by omega)
          have g2 := ih (i + 1) j (k + 1) (by omega)
          have g3 := ih (i + 1) (j + 1) k (by omega)
          have g4 := ih (i + 1) j k (by omega)
          have g5 := ih i j (k + 1) (by omega)
          have g6 := ih i j k (by omega)
          have e1 := lev_ss a c i k
          have e2 := lev_ss a b i j
          have e3 := lev_ss b c j k
          have t1 := co_tri a b c i j k
          have t2 := co_le (a i) b j
          omega
theorem lev_zero (a b : Nat → Nat) : ∀ i j, lev a b i j = 0 → i = j ∧ ∀ q, q < i → a q = b q := by
  intro i
  induction i with
  | zero => intro j h; rw [lev_0] at h; exact ⟨h.symm, fun q hq => absurd hq (Nat.not_lt_zero q)⟩
  | succ i ih =>
    intro j h
    cases j with
    | zero => rw [lev_s0] at h; omega
    | succ j =>
      rw [lev_ss] at h
      rcases co_01 (a i) b j with ⟨h5, h6⟩ | ⟨h5, h6⟩
      · have h1 := ih j (by omega)
        refine ⟨by omega, fun q hq => ?_⟩
        by_cases e : q = i
        · rw [e, h6, h1.1]
        · exact h1.2 q (by omega)
      · omega
theorem lev_same (a : Nat → Nat) : ∀ i, lev a a i i = 0 := by
  intro i
  induction i with
  | zero => rfl
  | succ i ih =>
    rw [lev_ss, ih]
    rcases co_01 (a i) a i with ⟨h5, h6⟩ | ⟨h5, h6⟩
    · omega
    · exact absurd rfl h6
theorem delp_ge (a : Nat → Nat) (i : Nat) : 1 ≤ delp a i := by unfold delp; split <;> omega
theorem repp_co (x : Nat) (b : Nat → Nat) (j : Nat) : repp x (b j) ≤ 3 * co x b j ∧ (repp x (b j) = 0 → co x b j = 0) := by
  rcases co_01 x b j with ⟨h5, h6⟩ | ⟨h5, h6⟩
  · have : repp x (b j) = 0 := if_pos h6
    omega
  · have h1 := repp_le x (b j)
    refine ⟨by omega, fun h => ?_⟩
    unfold repp at h
    rw [if_neg h6] at h
    split at h <;> omega
theorem pr_lev (a b : Nat → Nat) : ∀ i j, pr a b i j ≤ 3 * lev a b i j ∧ (pr a b i j = 0 → lev a b i j = 0) := by
  intro i
  induction i with
  | zero => intro j; rw [pr_0, lev_0]; omega
  | succ i ih =>
    intro j
    induction j with
    | zero =>
      rw [pr_s0, lev_s0]
      have h1 := ih 0
      rw [lev_s0] at h1
      have h2 := delp_le a i
      have h3 := delp_ge a i
      omega
    | succ j ih2 =>
      have h1 := ih j
      have h2 := ih (j + 1)
      have h3 := delp_le a i
      have h4 := delp_ge a i
      have h5 := repp_co (a i) b j
      have e1 := lev_ss a b i j
      have e2 := pr_ss a b i j
      split at e2 <;> omega
/-- words -/
theorem gw_same {a b : Nat} (h : lev (ltz a) (ltz b) (wl a) (wl b) = 0) : a = b := by
  have h1 := lev_zero _ _ _ _ h
  have h2 := (beg_eq (k := wl a) (Nat.le_refl _) (by omega)).mpr h1.2
  have h3 := beg_all a
  have h4 := beg_all b
  rw [h2, h1.1, h4] at h3
  exact h3.symm
theorem dst_0 {wd : Nat → Nat} {v i : Nat} : dst wd v i = 0 ↔ v = wd i := by
  constructor
  · exact fun h => gw_same h
  · intro h; show lev (ltz v) (ltz (wd i)) (wl v) (wl (wd i)) = 0; rw [← h]; exact lev_same _ _
theorem dst_tri {wd : Nat → Nat} (v u p : Nat) {i : Nat} (hi : wd i = u) : dst wd v p ≤ dst wd v i + dst wd u p ∧ dst wd u p ≤ dst wd v i + dst wd v p := by
  subst hi
  have h1 := lev_tri (ltz v) (ltz (wd i)) (ltz (wd p)) _ (wl v) (wl (wd i)) (wl (wd p)) (Nat.le_refl _)
  have h2 := lev_tri (ltz (wd i)) (ltz v) (ltz (wd p)) _ (wl (wd i)) (wl v) (wl (wd p)) (Nat.le_refl _)
  have h3 := lev_sym (ltz v) (ltz (wd i)) (wl v) (wl (wd i))
  exact ⟨h1, by unfold dst; rw [h3]; exact h2⟩
theorem cdk_of {wd : Nat → Nat} {v k i : Nat} (h : dst wd v i ≤ k) : cdk wd v k i := by
  have h1 := lev_lcs (ltz (wd i)) (ltz v) _ (wl (wd i)) (wl v) (Nat.le_refl _)
  have h2 := lev_sym (ltz v) (ltz (wd i)) (wl v) (wl (wd i))
  have h3 : lev (ltz (wd i)) (ltz v) (wl (wd i)) (wl v) ≤ k := by rw [← h2]; exact h
  show max (wl (wd i)) (wl v) ≤ _
  omega
theorem pzf_3 (wd : Nat → Nat) (v i : Nat) : pzf wd v i ≤ 3 * dst wd v i ∧ (pzf wd v i = 0 ↔ dst wd v i = 0) := by
  have h := pr_lev (ltz v) (ltz (wd i)) (wl v) (wl (wd i))
  have h1 : pzf wd v i ≤ 3 * dst wd v i := h.1
  exact ⟨h1, h.2, fun h2 => by omega⟩
