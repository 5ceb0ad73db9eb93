/-! the reference's list of reached rows -/
def lri (wd ct : Nat → Nat) (a k i : Nat) (L : List Nat) : Nat → List Nat
  | 0 => L
  | q + 1 => if fwd1 wd ct i (q + 1) ∧ rch a k (beg (wd i) (q + 1)) then lri wd ct a k i L q ++ [rown a k (beg (wd i) (q + 1))] else lri wd ct a k i L q
def lrn (wd ct : Nat → Nat) (a k : Nat) : Nat → List Nat
  | 0 => if rch a k 0 then [rown a k 0] else []
  | i + 1 => lri wd ct a k i (lrn wd ct a k i) 10
theorem lri_len {wd ct : Nat → Nat} {a k i : Nat} {L : List Nat} : ∀ q, List.length (lri wd ct a k i L q) ≤ List.length L + q := by
  intro q
  induction q with
  | zero => exact Nat.le_refl _
  | succ q ih =>
    unfold lri; split
    · rw [List.length_append]; show _ + 1 ≤ _; omega
    · omega
theorem lrn_len {wd ct : Nat → Nat} {a k : Nat} : ∀ i, List.length (lrn wd ct a k i) ≤ 1 + 10 * i := by
  intro i
  induction i with
  | zero => unfold lrn; split <;> simp
  | succ i ih => have := lri_len (wd := wd) (ct := ct) (a := a) (k := k) (i := i) (L := lrn wd ct a k i) 10; show List.length (lri _ _ _ _ _ _ 10) ≤ _; omega
theorem rown_lt {a k h : Nat} (ha : wl a ≤ 10) (hk : k ≤ 3) : rown a k h < 2 ^ 40 := by
  have h1 := rnf_lt (hrow h a) (c := k + 1) (by omega) (wl a) (wl a + 1)
  have h2 : 8 ^ (wl a + 1) ≤ 8 ^ 11 := Nat.pow_le_pow_right (by decide) (by omega)
  unfold rown; omega
theorem lri_s {wd ct : Nat → Nat} {a k i q : Nat} {L : List Nat} (h : fwd1 wd ct i (q + 1) ∧ rch a k (beg (wd i) (q + 1))) : lri wd ct a k i L (q + 1) = lri wd ct a k i L q ++ [rown a k (beg (wd i) (q + 1))] := if_pos h
theorem lri_k {wd ct : Nat → Nat} {a k i q : Nat} {L : List Nat} (h : ¬ (fwd1 wd ct i (q + 1) ∧ rch a k (beg (wd i) (q + 1)))) : lri wd ct a k i L (q + 1) = lri wd ct a k i L q := if_neg h
/-- contents with one more -/
theorem cts_app {f : Nat → Int64} {L : List Nat} {v : Nat} (h : ∀ j, j < List.length L → f j = lN (List.getD L j 0)) : ∀ j, j < List.length (L ++ [v]) → vp_updL f (List.length L) (lN v) j = lN (List.getD (L ++ [v]) j 0) := by
  intro j hj
  rw [List.length_append] at hj
  have hj : j < List.length L + 1 := hj
  by_cases e : j = List.length L
  · rw [e, getD_last, pk_uLs]
  · rw [getD_app (by omega), pk_uLn e]; exact h j (by omega)
theorem len_app {L : List Nat} {v : Nat} : List.length (L ++ [v]) = List.length L + 1 := by rw [List.length_append]; rfl
def lrs (wd ct : Nat → Nat) (a k n : Nat) : Prop := ∀ j, j < List.length (lrn wd ct a k n) → List.getD (lrn wd ct a k n) j 0 < 2 ^ 40
theorem lri_bnd {wd ct : Nat → Nat} {a k i : Nat} (ha : wl a ≤ 10) (hk : k ≤ 3) {L : List Nat} (h : lsb L) : ∀ q, lsb (lri wd ct a k i L q) := by
  intro q
  induction q with
  | zero => exact h
  | succ q ih =>
    unfold lri; split
    · intro j hj
      rw [len_app] at hj
      by_cases e : j = List.length (lri wd ct a k i L q)
      · rw [e, getD_last]; exact rown_lt ha hk
      · rw [getD_app (by omega)]; exact ih j (by omega)
    · exact ih
theorem lrn_bnd {wd ct : Nat → Nat} {a k : Nat} (ha : wl a ≤ 10) (hk : k ≤ 3) : ∀ i, lsb (lrn wd ct a k i) := by
  intro i
  induction i with
  | zero =>
    unfold lrn; split
    · intro j hj
      have : j = 0 := by have : j < 1 := hj
                         omega
      rw [this]; exact rown_lt ha hk
    · intro j hj; exact absurd hj (Nat.not_lt_zero _)
  | succ i ih => exact lri_bnd ha hk ih 10
/-- how many numbers of a list don't stand ahead of themselves -/
def dcl (L : List Nat) : Nat → Nat := cnt (fun i => decide (∀ j, j < i → List.getD L j 0 ≠ List.getD L i 0))
theorem lN_nneg {n : Nat} (h : n < 2 ^ 63) : ¬ lN n < lN 0 := fun h9 => by
  have := (pk_lLT h (by decide)).mp h9; omega
theorem rwo_lt {a k h : Nat} (ha : wl a ≤ 10) (hk : k ≤ 3) : rwo a k h < lN 0 ↔ ¬ rch a k h := by
  unfold rwo
  by_cases e : rch a k h
  · rw [if_pos e]; exact ⟨fun h9 => absurd h9 (lN_nneg (Nat.lt_trans (rown_lt ha hk) (by decide))), fun h9 => absurd e h9⟩
  · rw [if_neg e]; exact ⟨fun _ => e, fun _ => by decide⟩
theorem wl_10 {n : Nat} (h : n < 2 ^ 50) : wl n ≤ 10 := by
  rcases Nat.eq_zero_or_pos n with h1 | h1
  · rw [h1, wl_0]; omega
  · have h4 := wl_ge h1
    by_cases h5 : wl n ≤ 10
    · exact h5
    · have h6 : 32 ^ 10 ≤ 32 ^ (wl n - 1) := Nat.pow_le_pow_right (by decide) (by omega)
      have : (32 : Nat) ^ 10 = 2 ^ 50 := by decide
      omega
