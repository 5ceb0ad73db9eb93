/-! first places -/
/-- the first place below n that has it -/
def ffi (P : Nat → Bool) : Nat → Option Nat
  | 0 => none
  | n + 1 => match ffi P n with
    | some i => some i
    | none => if P n then some n else none
theorem ffi_s {P : Nat → Bool} {i : Nat} (h : ffi P i = none) (hp : ¬ P i = true) : ffi P (i + 1) = none := by
  show (match ffi P i with | some i => some i | none => _) = _; rw [h]; exact if_neg hp
theorem ffi_keep {P : Nat → Bool} {i x : Nat} (h : ffi P i = some x) : ∀ {n : Nat}, i ≤ n → ffi P n = some x := by
  intro n hn
  induction n with
  | zero => rw [show i = 0 by omega] at h; exact h
  | succ n ih =>
    by_cases e : i = n + 1
    · rw [← e]; exact h
    · show (match ffi P n with | some i => some i | none => _) = _
      rw [ih (by omega)]
theorem ffi_hit {P : Nat → Bool} {i n : Nat} (h : ffi P i = none) (hp : P i = true) (hi : i < n) : ffi P n = some i := by
  refine ffi_keep (i := i + 1) ?_ hi
  show (match ffi P i with | some i => some i | none => _) = _; rw [h]; exact if_pos hp
theorem ffi_some {P : Nat → Bool} : ∀ {n i : Nat}, ffi P n = some i → i < n ∧ P i = true := by
  intro n
  induction n with
  | zero => intro i h; exact nomatch h
  | succ n ih =>
    intro i h
    have h : (match ffi P n with | some i => some i | none => if P n then some n else none) = some i := h
    cases e : ffi P n with
    | some j => rw [e] at h; have := ih e; cases h; exact ⟨by omega, this.2⟩
    | none =>
      rw [e] at h
      by_cases hp : P n = true
      · simp [hp] at h; subst h; exact ⟨by omega, hp⟩
      · simp [hp] at h
theorem ffi_none {P : Nat → Bool} : ∀ {n : Nat}, ffi P n = none → ∀ j, j < n → ¬ P j = true := by
  intro n
  induction n with
  | zero => intro _ j hj; omega
  | succ n ih =>
    intro h j hj
    have h : (match ffi P n with | some i => some i | none => if P n then some n else none) = none := h
    cases e : ffi P n with
    | some x => rw [e] at h; exact nomatch h
    | none =>
      rw [e] at h
      by_cases e2 : j = n
      · subst e2; intro hp; simp [hp] at h
      · exact ih e j (by omega)
def adf (a b : Nat) : Nat := (a - b) + (b - a)
theorem q_abs {a b : Nat} (ha : a < 2 ^ 30) (hb : b < 2 ^ 30) : (if 0 ≤ nI a - nI b then nI a - nI b else 0 - (nI a - nI b)) = nI (adf a b) := by
  have e1 : (nI a - nI b).toInt = (a : Int) - b := pk_sub_toInt ha hb
  have e0 : (0 : Int32).toInt = 0 := rfl
  by_cases h : b ≤ a
  · rw [if_pos (by rw [Int32.le_iff_toInt_le, e0, e1]; omega), pk_sub h]
    congr 1; unfold adf; omega
  · rw [if_neg (by rw [Int32.le_iff_toInt_le, e0, e1]; omega)]
    have : (0 : Int32) - (nI a - nI b) = nI b - nI a := by
      rw [Int32.zero_sub, Int32.neg_sub]
    rw [this, pk_sub (by omega)]
    congr 1; unfold adf; omega
/-- letters passed at a place of a row of words -/
def lpa (wd ki : Nat → Nat) (i : Nat) : Nat := if i = 0 then 0 else shr (wd (ki i)) (wd (ki (i - 1))) 10 0
theorem shr_le (a b : Nat) : ∀ f k, k ≤ wl a → shr a b f k ≤ wl a := by
  intro f
  induction f with
  | zero => intro k h; exact h
  | succ f ih => intro k h; unfold shr; split; exact ih (k + 1) (by omega); exact h
theorem shr_eq (a b : Nat) : ∀ f k, (∀ j, j < k → ltz a j = ltz b j) → ∀ j, j < shr a b f k → ltz a j = ltz b j := by
  intro f
  induction f with
  | zero => intro k h; exact h
  | succ f ih =>
    intro k h
    unfold shr
    split
    · rename_i h2
      refine ih (k + 1) (fun j hj => ?_)
      by_cases e : j = k
      · rw [e]; exact h2.2
      · exact h j (by omega)
    · exact h
theorem lpa_le (wd ki : Nat → Nat) (i : Nat) : lpa wd ki i ≤ wl (wd (ki i)) := by
  unfold lpa; split
  · omega
  · exact shr_le _ _ 10 0 (by omega)
/-- nodes of the trie, by words in a row -/
def tnd (wd ki : Nat → Nat) : Nat → Nat
  | 0 => 1
  | i + 1 => tnd wd ki i + (wl (wd (ki i)) - lpa wd ki i)
theorem tnd_le {wd ki : Nat → Nat} : ∀ {m : Nat}, (∀ j, j < m → wl (wd (ki j)) ≤ 10) → tnd wd ki m ≤ 1 + 10 * m := by
  intro m
  induction m with
  | zero => intro _; exact Nat.le_refl _
  | succ m ih => intro h; show tnd wd ki m + _ ≤ _; have := ih (fun j hj => h j (by omega)); have := h m (by omega); omega
