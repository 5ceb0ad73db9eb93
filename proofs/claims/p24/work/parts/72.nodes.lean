/-! the trie's nodes, as numbers, from both sides -/
theorem wl_dv : ∀ j n, wl (n / 32 ^ j) = wl n - j := by
  intro j
  induction j with
  | zero => intro n; rw [Nat.pow_zero, Nat.div_one]; omega
  | succ j ih =>
    intro n
    rw [← div_pow_s, ih]
    rcases Nat.eq_zero_or_pos n with h | h
    · rw [h, show 0 / 32 = 0 from rfl, wl_0]; omega
    · rw [wl_s h]; omega
theorem wl_beg {n k : Nat} (h : k ≤ wl n) : wl (beg n k) = k := by
  unfold beg; rw [wl_dv]; omega
theorem beg_0 (n : Nat) : beg n 0 = 0 := by
  unfold beg; rw [Nat.sub_zero]; exact Nat.div_eq_of_lt (wl_lt n)
theorem beg_all (n : Nat) : beg n (wl n) = n := by unfold beg; rw [Nat.sub_self, Nat.pow_zero, Nat.div_one]
theorem beg_s {n k : Nat} (h : k < wl n) : beg n (k + 1) = 32 * beg n k + ltz n k := by
  rw [ltz_in h]
  unfold beg lt
  rw [show wl n - k = (wl n - 1 - k) + 1 by omega, show wl n - (k + 1) = wl n - 1 - k by omega, Nat.pow_succ, ← Nat.div_div_eq_div_mul]
  omega
theorem ltz_beg {n k q : Nat} (hk : k ≤ wl n) (hq : q < k) : ltz (beg n k) q = ltz n q := by
  rw [ltz_in (by rw [wl_beg hk]; exact hq), ltz_in (by omega)]
  unfold lt
  rw [wl_beg hk]
  unfold beg
  rw [Nat.div_div_eq_div_mul, ← Nat.pow_add, show wl n - k + (k - 1 - q) = wl n - 1 - q by omega]
theorem beg_eq {a b : Nat} : ∀ {k : Nat}, k ≤ wl a → k ≤ wl b → (beg a k = beg b k ↔ ∀ q, q < k → ltz a q = ltz b q) := by
  intro k
  induction k with
  | zero => intro _ _; rw [beg_0, beg_0]; exact ⟨fun _ q hq => by omega, fun _ => rfl⟩
  | succ k ih =>
    intro ha hb
    have h1 := ih (by omega) (by omega)
    have la := ltz_32 a k
    have lb := ltz_32 b k
    rw [beg_s (by omega), beg_s (by omega)]
    constructor
    · intro h q hq
      by_cases e : q = k
      · rw [e]; omega
      · exact h1.mp (by omega) q (by omega)
    · intro h
      rw [h1.mpr (fun q hq => h q (by omega)), h k (by omega)]
theorem beg_mod {n k : Nat} (hg : gw n) (h1 : 1 ≤ k) (h2 : k ≤ wl n) : beg n k % 32 ≠ 0 := by
  obtain ⟨j, rfl⟩ : ∃ j, k = j + 1 := ⟨k - 1, by omega⟩
  rw [beg_s (by omega), ltz_in (by omega)]
  have := lt_in hg (p := j) (by omega)
  omega
theorem al_pre {n k : Nat} (hw : wl n ≤ 10) (h : k ≤ wl n) : al n / 32 ^ (10 - k) = beg n k := by
  unfold al beg
  rw [show 10 - k = (10 - wl n) + (wl n - k) by omega, Nat.pow_add, ← Nat.div_div_eq_div_mul, Nat.mul_div_cancel _ (Nat.pow_pos (by decide))]
theorem al_pre2 {n k : Nat} (hk : k ≤ 10) (h : wl n < k) : al n / 32 ^ (10 - k) % 32 = 0 := by
  unfold al
  rw [show 10 - wl n = (10 - k) + ((k - wl n - 1) + 1) by omega, Nat.pow_add, Nat.pow_succ, Nat.mul_comm (32 ^ (10 - k)), ← Nat.mul_assoc, Nat.mul_div_cancel _ (Nat.pow_pos (by decide)), ← Nat.mul_assoc, Nat.mul_mod_left]
/-- between two words with a beginning in common all have it -/
theorem al_mid {a b c k : Nat} (ha : gw a) (hb : gw b) (hc : gw c) (h1 : al a ≤ al b) (h2 : al b ≤ al c) (hk : 1 ≤ k) (hka : k ≤ wl a) (hkc : k ≤ wl c) (he : beg a k = beg c k) : k ≤ wl b ∧ beg b k = beg c k := by
  have h3 := Nat.div_le_div_right (c := 32 ^ (10 - k)) h1
  have h4 := Nat.div_le_div_right (c := 32 ^ (10 - k)) h2
  rw [al_pre (gw_wl ha) hka, he] at h3
  rw [al_pre (gw_wl hc) hkc] at h4
  have h5 : al b / 32 ^ (10 - k) = beg c k := by omega
  have h6 : k ≤ wl b := by
    refine Nat.le_of_not_lt (fun hlt => ?_)
    have h7 := al_pre2 (n := b) (k := k) (by have := gw_wl hc; omega) hlt
    rw [h5] at h7
    exact beg_mod hc hk hkc h7
  exact ⟨h6, by rw [← al_pre (gw_wl hb) h6]; exact h5⟩
theorem shr_lo (a b : Nat) : ∀ f p, p ≤ shr a b f p := by
  intro f
  induction f with
  | zero => intro p; exact Nat.le_refl _
  | succ f ih => intro p; unfold shr; split; exact Nat.le_trans (by omega) (ih (p + 1)); exact Nat.le_refl _
theorem shr_ge {a b k : Nat} (hka : k ≤ wl a) (he : ∀ q, q < k → ltz a q = ltz b q) : ∀ f p, p ≤ k → k ≤ p + f → k ≤ shr a b f p := by
  intro f
  induction f with
  | zero => intro p h1 h2; show k ≤ p; omega
  | succ f ih =>
    intro p h1 h2
    by_cases e : p = k
    · rw [e]; exact shr_lo a b _ k
    · unfold shr
      rw [if_pos ⟨by omega, he p (by omega)⟩]
      exact ih (p + 1) (by omega) (by omega)
theorem shr_iff {a b k : Nat} (ha : gw a) : k ≤ shr a b 10 0 ↔ (k ≤ wl a ∧ k ≤ wl b ∧ ∀ q, q < k → ltz a q = ltz b q) := by
  constructor
  · intro h
    exact ⟨Nat.le_trans h (shr_le a b 10 0 (by omega)), Nat.le_trans h (shr_le2 ha 10 0 (by omega) (by omega)), fun q hq => shr_eq a b 10 0 (fun j hj => by omega) q (by omega)⟩
  · rintro ⟨h1, h2, h3⟩
    exact shr_ge h1 h3 10 0 (by omega) (by have := gw_wl ha; omega)
/-- nodes, word by word in alphabetical order -/
def cna (w p : Nat) (S : List Nat) : Nat → List Nat
  | 0 => S
  | c + 1 => cna w p S c ++ [beg w (p + c + 1)]
def cno (wd ki : Nat → Nat) : Nat → List Nat
  | 0 => [0]
  | i + 1 => cna (wd (ki i)) (lpa wd ki i) (cno wd ki i) (wl (wd (ki i)) - lpa wd ki i)
theorem cna_mem {w p x : Nat} {S : List Nat} : ∀ c, x ∈ cna w p S c ↔ x ∈ S ∨ ∃ k, p < k ∧ k ≤ p + c ∧ x = beg w k := by
  intro c
  induction c with
  | zero => exact ⟨fun h => Or.inl h, fun h => h.elim id (fun ⟨k, h1, h2, _⟩ => by omega)⟩
  | succ c ih =>
    show x ∈ cna w p S c ++ [beg w (p + c + 1)] ↔ _
    rw [q_mem_app, ih]
    constructor
    · rintro ((h | ⟨k, h1, h2, h3⟩) | h)
      · exact Or.inl h
      · exact Or.inr ⟨k, h1, by omega, h3⟩
      · exact Or.inr ⟨p + c + 1, by omega, by omega, h⟩
    · rintro (h | ⟨k, h1, h2, h3⟩)
      · exact Or.inl (Or.inl h)
      · by_cases e : k = p + c + 1
        · exact Or.inr (e ▸ h3)
        · exact Or.inl (Or.inr ⟨k, h1, by omega, h3⟩)
theorem cna_nd {w p : Nat} {S : List Nat} (hS : S.Nodup) : ∀ c, p + c ≤ wl w → (∀ k, p < k → k ≤ p + c → beg w k ∉ S) → (cna w p S c).Nodup := by
  intro c
  induction c with
  | zero => intro _ _; exact hS
  | succ c ih =>
    intro hc hn
    refine q_nd_app (ih (by omega) (fun k h1 h2 => hn k h1 (by omega))) (fun h => ?_)
    rcases (cna_mem c).mp h with h1 | ⟨k, h1, h2, h3⟩
    · exact hn (p + c + 1) (by omega) (by omega) h1
    · have h4 := congrArg wl h3
      rw [wl_beg (by omega), wl_beg (by omega)] at h4
      omega
section NO
variable {wd ct ki : Nat → Nat} {m n : Nat}
def SRT (wd ki : Nat → Nat) (m : Nat) : Prop := ∀ i j, i < j → j < m → al (wd (ki i)) < al (wd (ki j))
theorem srt_le (hs : SRT wd ki m) {i j : Nat} (h : i ≤ j) (hj : j < m) : al (wd (ki i)) ≤ al (wd (ki j)) := by
  by_cases e : i = j
  · rw [e]; exact Nat.le_refl _
  · exact Nat.le_of_lt (hs i j (by omega) hj)
theorem lpa_iff (hg : ∀ j, j < m → gw (wd (ki j))) {j k : Nat} (hj : j < m) (h0 : 0 < j) : k ≤ lpa wd ki j ↔ (k ≤ wl (wd (ki j)) ∧ k ≤ wl (wd (ki (j - 1))) ∧ beg (wd (ki (j - 1))) k = beg (wd (ki j)) k) := by
  have e : lpa wd ki j = shr (wd (ki j)) (wd (ki (j - 1))) 10 0 := if_neg (by omega)
  rw [e, shr_iff (hg j hj)]
  constructor
  · rintro ⟨h1, h2, h3⟩
    exact ⟨h1, h2, (beg_eq h2 h1).mpr (fun q hq => (h3 q hq).symm)⟩
  · rintro ⟨h1, h2, h3⟩
    exact ⟨h1, h2, fun q hq => ((beg_eq h2 h1).mp h3 q hq).symm⟩
theorem cno_mem (hg : ∀ j, j < m → gw (wd (ki j))) : ∀ i, i ≤ m → ∀ x, (x ∈ cno wd ki i ↔ x = 0 ∨ ∃ j, j < i ∧ ∃ k, 1 ≤ k ∧ k ≤ wl (wd (ki j)) ∧ x = beg (wd (ki j)) k) := by
  intro i
  induction i with
  | zero =>
    intro _ x
    show x ∈ [0] ↔ _
    rw [List.mem_singleton]
    exact ⟨fun h => Or.inl h, fun h => h.elim id (fun ⟨j, hj, _⟩ => by omega)⟩
  | succ i ih =>
    intro hi x
    have hle := lpa_le wd ki i
    show x ∈ cna _ _ _ _ ↔ _
    rw [cna_mem, ih (by omega)]
    constructor
    · rintro ((h | ⟨j, h1, h2⟩) | ⟨k, h1, h2, h3⟩)
      · exact Or.inl h
      · exact Or.inr ⟨j, by omega, h2⟩
      · exact Or.inr ⟨i, by omega, k, by omega, by omega, h3⟩
    · rintro (h | ⟨j, h1, k, h2, h3, h4⟩)
      · exact Or.inl (Or.inl h)
      · by_cases e : j = i
        · subst e
          by_cases h5 : lpa wd ki j < k
          · exact Or.inr ⟨k, h5, by omega, h4⟩
          · have h0 : 0 < j := by
              rcases Nat.eq_zero_or_pos j with h6 | h6
              · exfalso; apply h5; rw [h6]; show (if (0 : Nat) = 0 then 0 else _) < k; rw [if_pos rfl]; omega
              · exact h6
            have h6 := (lpa_iff hg (by omega) h0).mp (Nat.le_of_not_lt h5)
            exact Or.inl (Or.inr ⟨j - 1, by omega, k, h2, h6.2.1, by rw [h4, h6.2.2]⟩)
        · exact Or.inl (Or.inr ⟨j, by omega, k, h2, h3, h4⟩)
theorem cno_nd (hg : ∀ j, j < m → gw (wd (ki j))) (hs : SRT wd ki m) : ∀ i, i ≤ m → (cno wd ki i).Nodup := by
  intro i
  induction i with
  | zero => intro _; exact List.nodup_cons.mpr ⟨List.not_mem_nil, List.nodup_nil⟩
  | succ i ih =>
    intro hi
    have hle := lpa_le wd ki i
    refine cna_nd (ih (by omega)) _ (by omega) (fun k h1 h2 h3 => ?_)
    have hkw : k ≤ wl (wd (ki i)) := by omega
    rcases (cno_mem hg i (by omega) _).mp h3 with h4 | ⟨j, h4, k2, h5, h6, h7⟩
    · have h8 := congrArg wl h4
      rw [wl_beg hkw, wl_0] at h8
      omega
    · have h8 := congrArg wl h7
      rw [wl_beg hkw, wl_beg h6] at h8
      subst h8
      have h9 := al_mid (hg j (by omega)) (hg (i - 1) (by omega)) (hg i (by omega)) (srt_le hs (by omega) (by omega)) (srt_le hs (by omega) (by omega)) h5 h6 hkw h7.symm
      have := (lpa_iff hg (by omega) (by omega)).mpr ⟨hkw, h9.1, h9.2⟩
      omega
/-- nodes, by the first known word that has them -/
def mna (wd ct : Nat → Nat) (i : Nat) (L : List Nat) : Nat → List Nat
  | 0 => L
  | q + 1 => if fwd1 wd ct i (q + 1) then mna wd ct i L q ++ [beg (wd i) (q + 1)] else mna wd ct i L q
def mno (wd ct : Nat → Nat) : Nat → List Nat
  | 0 => [0]
  | i + 1 => mna wd ct i (mno wd ct i) 10
theorem mna_t {i q : Nat} {L : List Nat} (h : fwd1 wd ct i (q + 1)) : mna wd ct i L (q + 1) = mna wd ct i L q ++ [beg (wd i) (q + 1)] := if_pos h
theorem mna_f {i q : Nat} {L : List Nat} (h : ¬ fwd1 wd ct i (q + 1)) : mna wd ct i L (q + 1) = mna wd ct i L q := if_neg h
theorem mna_mem {i x : Nat} {L : List Nat} : ∀ q, x ∈ mna wd ct i L q ↔ x ∈ L ∨ ∃ k, 1 ≤ k ∧ k ≤ q ∧ fwd1 wd ct i k ∧ x = beg (wd i) k := by
  intro q
  induction q with
  | zero => exact ⟨fun h => Or.inl h, fun h => h.elim id (fun ⟨k, h1, h2, _⟩ => by omega)⟩
  | succ q ih =>
    by_cases hf : fwd1 wd ct i (q + 1)
    · rw [mna_t hf, q_mem_app, ih]
      constructor
      · rintro ((h | ⟨k, h1, h2, h3⟩) | h)
        · exact Or.inl h
        · exact Or.inr ⟨k, h1, by omega, h3⟩
        · exact Or.inr ⟨q + 1, by omega, by omega, hf, h⟩
      · rintro (h | ⟨k, h1, h2, h3, h4⟩)
        · exact Or.inl (Or.inl h)
        · by_cases e : k = q + 1
          · exact Or.inr (e ▸ h4)
          · exact Or.inl (Or.inr ⟨k, h1, by omega, h3, h4⟩)
    · rw [mna_f hf, ih]
      constructor
      · rintro (h | ⟨k, h1, h2, h3⟩)
        · exact Or.inl h
        · exact Or.inr ⟨k, h1, by omega, h3⟩
      · rintro (h | ⟨k, h1, h2, h3, h4⟩)
        · exact Or.inl h
        · have : k ≠ q + 1 := fun e => hf (e ▸ h3)
          exact Or.inr ⟨k, h1, by omega, h3, h4⟩
theorem mno_in : ∀ i x, x ∈ mno wd ct i → x = 0 ∨ ∃ j, j < i ∧ 0 < ct j ∧ ∃ k, 1 ≤ k ∧ k ≤ wl (wd j) ∧ x = beg (wd j) k := by
  intro i
  induction i with
  | zero => intro x h; exact Or.inl (List.mem_singleton.mp h)
  | succ i ih =>
    intro x h
    rcases (mna_mem 10).mp h with h1 | ⟨k, h1, h2, h3, h4⟩
    · rcases ih x h1 with h2 | ⟨j, h2, h3⟩
      · exact Or.inl h2
      · exact Or.inr ⟨j, by omega, h3⟩
    · exact Or.inr ⟨i, by omega, h3.1.1, k, h1, h3.1.2, h4⟩
theorem mno_up {i x : Nat} (h : x ∈ mno wd ct i) : ∀ {j : Nat}, i ≤ j → x ∈ mno wd ct j := by
  intro j hj
  induction j with
  | zero => rw [show i = 0 by omega] at h; exact h
  | succ j ih =>
    by_cases e : i = j + 1
    · rw [← e]; exact h
    · exact (mna_mem 10).mpr (Or.inl (ih (by omega)))
theorem mno_0 : ∀ i, 0 ∈ mno wd ct i := fun i => mno_up (i := 0) (List.mem_singleton.mpr rfl) (Nat.zero_le i)
theorem mno_has (hg : ∀ i, i < n → gw (wd i)) {k : Nat} (hk : 1 ≤ k) : ∀ i, i < n → 0 < ct i → k ≤ wl (wd i) → beg (wd i) k ∈ mno wd ct (i + 1) := by
  intro i
  induction i using Nat.strongRecOn with
  | ind i ih =>
    intro hi hc hw
    by_cases hf : fwd1 wd ct i k
    · exact (mna_mem 10).mpr (Or.inr ⟨k, hk, by have := gw_wl (hg i hi); omega, hf, rfl⟩)
    · have : ∃ j, j < i ∧ (0 < ct j ∧ k ≤ wl (wd j) ∧ beg (wd j) k = beg (wd i) k) := by
        refine Decidable.byContradiction (fun hno => hf ⟨⟨hc, hw⟩, fun j hj h9 => hno ⟨j, hj, h9⟩⟩)
      obtain ⟨j, hj, h1, h2, h3⟩ := this
      rw [← h3]
      exact mno_up (ih j hj (by omega) h1 h2) (by omega)
theorem mno_mem (hg : ∀ i, i < n → gw (wd i)) (x : Nat) : x ∈ mno wd ct n ↔ x = 0 ∨ ∃ j, j < n ∧ 0 < ct j ∧ ∃ k, 1 ≤ k ∧ k ≤ wl (wd j) ∧ x = beg (wd j) k := by
  constructor
  · exact mno_in n x
  · rintro (h | ⟨j, h1, h2, k, h3, h4, h5⟩)
    · rw [h]; exact mno_0 n
    · rw [h5]; exact mno_up (mno_has hg h3 j h1 h2 h4) (by omega)
theorem mna_nd {i : Nat} {L : List Nat} (hL : L.Nodup) (hn : ∀ k, 1 ≤ k → fwd1 wd ct i k → beg (wd i) k ∉ L) : ∀ q, (mna wd ct i L q).Nodup := by
  intro q
  induction q with
  | zero => exact hL
  | succ q ih =>
    by_cases hf : fwd1 wd ct i (q + 1)
    · rw [mna_t hf]
      refine q_nd_app ih (fun h => ?_)
      rcases (mna_mem q).mp h with h1 | ⟨k, h1, h2, h3, h4⟩
      · exact hn (q + 1) (by omega) hf h1
      · have h5 := congrArg wl h4
        rw [wl_beg hf.1.2, wl_beg h3.1.2] at h5
        omega
    · rw [mna_f hf]; exact ih
theorem mno_nd : ∀ i, (mno wd ct i).Nodup := by
  intro i
  induction i with
  | zero => exact List.nodup_cons.mpr ⟨List.not_mem_nil, List.nodup_nil⟩
  | succ i ih =>
    refine mna_nd ih (fun k hk hf h => ?_) 10
    rcases mno_in i _ h with h1 | ⟨j, h1, h2, k2, h3, h4, h5⟩
    · have h6 := congrArg wl h1
      rw [wl_beg hf.1.2, wl_0] at h6
      omega
    · have h6 := congrArg wl h5
      rw [wl_beg hf.1.2, wl_beg h4] at h6
      subst h6
      exact hf.2 j h1 ⟨h2, h4, h5.symm⟩
/-- both have the same nodes -/
theorem nodes_same (hg : ∀ i, i < n → gw (wd i)) (hK : KN ct ki m n) (x : Nat) : x ∈ cno wd ki m ↔ x ∈ mno wd ct n := by
  rw [cno_mem (m := m) (fun j hj => hg _ (hK.1 j hj).1) m (Nat.le_refl _), mno_mem hg]
  constructor
  · rintro (h | ⟨j, h1, h2⟩)
    · exact Or.inl h
    · exact Or.inr ⟨ki j, (hK.1 j h1).1, (hK.1 j h1).2, h2⟩
  · rintro (h | ⟨j, h1, h2, h3⟩)
    · exact Or.inl h
    · obtain ⟨p, hp, e⟩ := hK.2 j h1 h2
      exact Or.inr ⟨p, hp, by rw [e]; exact h3⟩
theorem tnd_len : ∀ i, tnd wd ki i = (cno wd ki i).length := by
  have h1 : ∀ (w p : Nat) (S : List Nat) (c : Nat), (cna w p S c).length = S.length + c := by
    intro w p S c
    induction c with
    | zero => rfl
    | succ c ih => show (cna w p S c ++ [_]).length = _; rw [List.length_append, ih]; rfl
  intro i
  induction i with
  | zero => rfl
  | succ i ih => show tnd wd ki i + _ = (cna _ _ _ _).length; rw [h1, ih]
theorem mno_len : ∀ i, (mno wd ct i).length = 1 + sm (fun i => fwc wd ct i 10) i := by
  have h1 : ∀ (i : Nat) (L : List Nat) (q : Nat), (mna wd ct i L q).length = L.length + fwc wd ct i q := by
    intro i L q
    induction q with
    | zero => rfl
    | succ q ih =>
      by_cases hf : fwd1 wd ct i (q + 1)
      · rw [mna_t hf, List.length_append, ih, show fwc wd ct i (q + 1) = fwc wd ct i q + 1 from cnt_t (decide_eq_true hf)]; rfl
      · rw [mna_f hf, ih, show fwc wd ct i (q + 1) = fwc wd ct i q from cnt_f (by rw [decide_eq_true_eq]; exact hf)]
  intro i
  induction i with
  | zero => rfl
  | succ i ih => show (mna _ _ _ _ 10).length = _; rw [h1, ih]; show _ = 1 + (sm _ i + fwc wd ct i 10); omega
theorem tnd_eq (hg : ∀ i, i < n → gw (wd i)) (hK : KN ct ki m n) (hs : SRT wd ki m) : tnd wd ki m = 1 + sm (fun i => fwc wd ct i 10) n := by
  rw [tnd_len, ← mno_len]
  exact q_nd_eq (cno_nd (m := m) (fun j hj => hg _ (hK.1 j hj).1) hs m (Nat.le_refl _)) (mno_nd n) (nodes_same hg hK)
end NO
