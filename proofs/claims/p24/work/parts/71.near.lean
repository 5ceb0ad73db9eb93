/-! the nearest word, and who is compared, from both sides -/
theorem nrs_min {wd ct : Nat → Nat} {a : Nat} : ∀ i, (nrs wd ct a i = none → ∀ j, j < i → ct j = 0) ∧ ∀ d, nrs wd ct a i = some d → (∃ j, j < i ∧ 0 < ct j ∧ dst wd a j = d) ∧ ∀ j, j < i → 0 < ct j → d ≤ dst wd a j := by
  intro i
  induction i with
  | zero => exact ⟨fun _ j hj => by omega, fun d h => (nomatch h)⟩
  | succ i ih =>
    by_cases hc : 0 < ct i ∧ ∀ d, nrs wd ct a i = some d → lev (ltz a) (ltz (wd i)) (wl a) (wl (wd i)) < d
    · have e : nrs wd ct a (i + 1) = some (dst wd a i) := if_pos hc
      rw [e]
      refine ⟨fun h => (nomatch h), fun d h => ?_⟩
      cases h
      refine ⟨⟨i, by omega, hc.1, rfl⟩, fun j hj h0 => ?_⟩
      by_cases e2 : j = i
      · rw [e2]; exact Nat.le_refl _
      · cases e3 : nrs wd ct a i with
        | none => have := ih.1 e3 j (by omega); omega
        | some d =>
          have h1 := hc.2 d e3
          have h2 := (ih.2 d e3).2 j (by omega) h0
          exact Nat.le_trans (Nat.le_of_lt h1) h2
    · have e : nrs wd ct a (i + 1) = nrs wd ct a i := if_neg hc
      rw [e]
      refine ⟨fun h j hj => ?_, fun d h => ?_⟩
      · by_cases e2 : j = i
        · rw [e2]
          rcases Nat.eq_zero_or_pos (ct i) with h1 | h1
          · exact h1
          · exact absurd ⟨h1, fun d h9 => by rw [h] at h9; exact nomatch h9⟩ hc
        · exact ih.1 h j (by omega)
      · obtain ⟨⟨j, h1, h2, h3⟩, h4⟩ := ih.2 d h
        refine ⟨⟨j, by omega, h2, h3⟩, fun j2 hj2 h0 => ?_⟩
        by_cases e2 : j2 = i
        · rw [e2]
          refine Nat.le_of_not_lt (fun hlt => hc ⟨e2 ▸ h0, fun d9 h9 => ?_⟩)
          rw [h] at h9
          cases h9
          exact hlt
        · exact h4 j2 (by omega) h0
theorem nrk_min {wd ki : Nat → Nat} {v : Nat} : ∀ i, (nrk wd ki v i = none → i = 0) ∧ ∀ d, nrk wd ki v i = some d → (∃ j, j < i ∧ dst wd v (ki j) = d) ∧ ∀ j, j < i → d ≤ dst wd v (ki j) := by
  intro i
  induction i with
  | zero => exact ⟨fun _ => rfl, fun d h => (nomatch h)⟩
  | succ i ih =>
    cases e : nrk wd ki v i with
    | none =>
      rw [nrk_n e]
      refine ⟨fun h => (nomatch h), fun d h => ?_⟩
      have h0 := ih.1 e
      cases h
      refine ⟨⟨i, by omega, rfl⟩, fun j hj => ?_⟩
      rw [show j = i by omega]; exact Nat.le_refl _
    | some d0 =>
      rw [nrk_s e]
      refine ⟨fun h => (nomatch h), fun d h => ?_⟩
      obtain ⟨⟨j, h1, h2⟩, h3⟩ := ih.2 d0 e
      cases h
      constructor
      · by_cases hm : d0 ≤ dst wd v (ki i)
        · exact ⟨j, by omega, by rw [h2]; omega⟩
        · exact ⟨i, by omega, by omega⟩
      · intro j2 hj2
        by_cases e2 : j2 = i
        · rw [e2]; omega
        · have := h3 j2 (by omega); omega
/-- the known words of a row are just those with a count -/
def KN (ct ki : Nat → Nat) (m n : Nat) : Prop := (∀ j, j < m → ki j < n ∧ 0 < ct (ki j)) ∧ ∀ i, i < n → 0 < ct i → ∃ j, j < m ∧ ki j = i
theorem near_eq {wd ct ki : Nat → Nat} {m n a : Nat} (hK : KN ct ki m n) : nrk wd ki a m = nrs wd ct a n := by
  have h1 := nrk_min (wd := wd) (ki := ki) (v := a) m
  have h2 := nrs_min (wd := wd) (ct := ct) (a := a) n
  cases e1 : nrk wd ki a m with
  | none =>
    have h0 := h1.1 e1
    cases e2 : nrs wd ct a n with
    | none => rfl
    | some d =>
      obtain ⟨⟨j, h3, h4, -⟩, -⟩ := h2.2 d e2
      obtain ⟨p, hp, -⟩ := hK.2 j h3 h4
      omega
  | some d1 =>
    obtain ⟨⟨j, h3, h4⟩, h5⟩ := h1.2 d1 e1
    cases e2 : nrs wd ct a n with
    | none =>
      have := h2.1 e2 (ki j) (hK.1 j h3).1
      have := (hK.1 j h3).2
      omega
    | some d2 =>
      obtain ⟨⟨j2, h6, h7, h8⟩, h9⟩ := h2.2 d2 e2
      have a1 := h9 (ki j) (hK.1 j h3).1 (hK.1 j h3).2
      obtain ⟨p, hp, ep⟩ := hK.2 j2 h6 h7
      have a2 := h5 p hp
      rw [ep] at a2
      congr 1
      omega
/-- who is compared in a search -/
def ccg (pa : Nat → Option Nat) (nm : Nat → Nat) (wd : Nat → Nat) (a k : Nat) : Nat → Nat → Bool
  | 0, _ => true
  | f + 1, i => match pa i with
    | none => true
    | some q => ccg pa nm wd a k f q && decide (nm i ≤ dst wd a q + k ∧ dst wd a q ≤ nm i + k)
def ccf (pa : Nat → Option Nat) (nm : Nat → Nat) (wd : Nat → Nat) (a k i : Nat) : Bool := ccg pa nm wd a k (i + 1) i
theorem ccg_st {pa : Nat → Option Nat} {nm wd : Nat → Nat} {a k n : Nat} (hpn : ∀ k i, k < n → pa k = some i → i < k) : ∀ f g i, i < n → i < f → i < g → ccg pa nm wd a k f i = ccg pa nm wd a k g i := by
  intro f
  induction f with
  | zero => intro g i _ h; omega
  | succ f ih =>
    intro g i hi hf hg
    cases g with
    | zero => omega
    | succ g =>
      show (match pa i with | none => true | some q => _) = (match pa i with | none => true | some q => _)
      cases e : pa i with
      | none => rfl
      | some q =>
        have := hpn i q hi e
        show (ccg pa nm wd a k f q && _) = (ccg pa nm wd a k g q && _)
        rw [ih g q (by omega) (by omega) (by omega)]
theorem ccf_eq {pa : Nat → Option Nat} {nm wd : Nat → Nat} {a k n : Nat} (hpn : ∀ k i, k < n → pa k = some i → i < k) : ∀ i, i < n → (ccf pa nm wd a k i = true ↔ ∀ q, pa i = some q → (ccf pa nm wd a k q = true ∧ nm i ≤ dst wd a q + k ∧ dst wd a q ≤ nm i + k)) := by
  intro i hi
  have h0 : ccf pa nm wd a k i = (match pa i with | none => true | some q => ccg pa nm wd a k i q && decide (nm i ≤ dst wd a q + k ∧ dst wd a q ≤ nm i + k)) := rfl
  cases e : pa i with
  | none => rw [h0, e]; exact ⟨fun _ q hq => (nomatch hq), fun _ => rfl⟩
  | some q =>
    have hq := hpn i q hi e
    rw [h0, e]
    have h1 : ccg pa nm wd a k i q = ccf pa nm wd a k q := ccg_st hpn i (q + 1) q (by omega) hq (by omega)
    show (ccg pa nm wd a k i q && decide (nm i ≤ dst wd a q + k ∧ dst wd a q ≤ nm i + k)) = true ↔ _
    rw [h1, Bool.and_eq_true, decide_eq_true_eq]
    exact ⟨fun h q2 hq2 => by cases hq2; exact h, fun h => h q rfl⟩
