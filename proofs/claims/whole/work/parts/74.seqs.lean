/-! sequences that are left: neighbourhoods and candidates, from both sides -/
/-- x is left of the first t letters of n without d of them -/
def dsq (n : Nat) : Nat → Nat → Nat → Prop
  | 0, d, x => d = 0 ∧ x = 0
  | t + 1, d, x => (∃ e, d = e + 1 ∧ dsq n t e x) ∨ (∃ y, dsq n t d y ∧ x = 32 * y + ltz n t)
theorem dsq_le {n : Nat} : ∀ {t d x : Nat}, dsq n t d x → d ≤ t := by
  intro t
  induction t with
  | zero => intro d x h; exact Nat.le_of_eq h.1
  | succ t ih =>
    intro d x h
    rcases h with ⟨e, h1, h2⟩ | ⟨y, h1, _⟩
    · have := ih h2; omega
    · have := ih h1; omega
theorem dsq_0 {n : Nat} : ∀ {t : Nat}, t ≤ wl n → ∀ x, dsq n t 0 x ↔ x = beg n t := by
  intro t
  induction t with
  | zero => intro _ x; rw [beg_0]; exact ⟨fun h => h.2, fun h => ⟨rfl, h⟩⟩
  | succ t ih =>
    intro ht x
    rw [beg_s (by omega)]
    constructor
    · rintro (⟨e, h1, _⟩ | ⟨y, h1, h2⟩)
      · omega
      · rw [h2, (ih (by omega) y).mp h1]
    · intro h
      exact Or.inr ⟨beg n t, (ih (by omega) _).mpr rfl, h⟩
theorem dsq_all (n : Nat) : ∀ t, dsq n t t 0 := by
  intro t
  induction t with
  | zero => exact ⟨rfl, rfl⟩
  | succ t ih => exact Or.inl ⟨t, rfl, ih⟩
theorem wl_app {y l : Nat} (h1 : 1 ≤ l) (h2 : l < 32) : wl (32 * y + l) = wl y + 1 := by
  rw [wl_s (by omega), show (32 * y + l) / 32 = y by omega]
theorem ltz_pos {n t : Nat} (hg : gw n) (h : t < wl n) : 1 ≤ ltz n t := by rw [ltz_in h]; exact (lt_in hg h).1
theorem dsq_wl {n : Nat} (hg : gw n) : ∀ {t d x : Nat}, t ≤ wl n → dsq n t d x → wl x = t - d := by
  intro t
  induction t with
  | zero => intro d x _ h; rw [h.2, wl_0]; omega
  | succ t ih =>
    intro d x ht h
    rcases h with ⟨e, h1, h2⟩ | ⟨y, h1, h2⟩
    · rw [ih (by omega) h2]; omega
    · rw [h2, wl_app (ltz_pos hg (by omega)) (ltz_32 n t), ih (by omega) h1]
      have := dsq_le h1
      omega
/-! the reference's way to write them -/
def wct (p q : Nat) : Nat → Nat
  | 0 => 0
  | t + 1 => if t + 1 = p ∨ t + 1 = q then wct p q t + 1 else wct p q t
theorem beg_ltz {n t : Nat} (h : t < wl n) : beg n (t + 1) % 32 = ltz n t := by
  rw [beg_s h]; have := ltz_32 n t; omega
theorem wof_d {n p q : Nat} : ∀ {t : Nat}, t ≤ wl n → dsq n t (wct p q t) (wof n p q t) := by
  intro t
  induction t with
  | zero => intro _; exact ⟨rfl, rfl⟩
  | succ t ih =>
    intro ht
    unfold wct wof
    by_cases h : t + 1 = p ∨ t + 1 = q
    · rw [if_pos h, if_pos h]; exact Or.inl ⟨_, rfl, ih (by omega)⟩
    · rw [if_neg h, if_neg h]; exact Or.inr ⟨_, ih (by omega), by rw [beg_ltz (by omega)]⟩
theorem wct_0 : ∀ t, wct 0 0 t = 0 := by
  intro t
  induction t with
  | zero => rfl
  | succ t ih => unfold wct; rw [if_neg (by omega)]; exact ih
theorem wct_b (p q : Nat) : ∀ t, (t < p → t < q → wct p q t = 0) ∧ (t < p ∨ t < q → wct p q t ≤ 1) ∧ (p = q → wct p q t ≤ 1) ∧ wct p q t ≤ 2 := by
  intro t
  induction t with
  | zero => exact ⟨fun _ _ => rfl, fun _ => Nat.zero_le _, fun _ => Nat.zero_le _, Nat.zero_le _⟩
  | succ t ih =>
    have e : wct p q (t + 1) = if t + 1 = p ∨ t + 1 = q then wct p q t + 1 else wct p q t := rfl
    rw [e]
    split
    · rename_i h
      refine ⟨fun h1 h2 => by omega, fun h1 => ?_, fun h1 => ?_, ?_⟩
      · have := ih.1 (by omega) (by omega); omega
      · have := ih.1 (by omega) (by omega); omega
      · have := ih.2.1 (by omega); omega
    · exact ⟨fun h1 h2 => ih.1 (by omega) (by omega), fun h1 => ih.2.1 (by omega), ih.2.2.1, ih.2.2.2⟩
theorem wof_n {n p q : Nat} : ∀ {t : Nat}, t ≤ wl n → (p = 0 ∨ t < p) → (q = 0 ∨ t < q) → wof n p q t = beg n t := by
  intro t
  induction t with
  | zero => intro _ _ _; exact (beg_0 n).symm
  | succ t ih =>
    intro ht hp hq
    unfold wof
    rw [if_neg (by omega), ih (by omega) (by omega) (by omega), beg_ltz (by omega), ← beg_s (by omega)]
theorem wof_pq {n p q : Nat} : ∀ {t : Nat}, t < q → wof n p q t = wof n p p t := by
  intro t
  induction t with
  | zero => intro _; rfl
  | succ t ih =>
    intro hq
    unfold wof
    rw [ih (by omega)]
    by_cases h : t + 1 = p
    · rw [if_pos (Or.inl h), if_pos (Or.inl h)]
    · rw [if_neg (by omega), if_neg (by omega)]
theorem wof_at {n p q t : Nat} (h : t + 1 = p ∨ t + 1 = q) : wof n p q (t + 1) = wof n p q t := if_pos h
theorem wof_go {n p q t : Nat} (h : ¬ (t + 1 = p ∨ t + 1 = q)) : wof n p q (t + 1) = 32 * wof n p q t + beg n (t + 1) % 32 := if_neg h
theorem dsq_1 {n : Nat} : ∀ {t x : Nat}, t ≤ wl n → dsq n t 1 x → ∃ p, 1 ≤ p ∧ p ≤ t ∧ x = wof n p p t := by
  intro t
  induction t with
  | zero => intro x _ h; exact absurd h.1 (by omega)
  | succ t ih =>
    intro x ht h
    rcases h with ⟨e, h1, h2⟩ | ⟨y, h1, h2⟩
    · have e0 : e = 0 := by omega
      subst e0
      exact ⟨t + 1, by omega, by omega, by rw [wof_at (Or.inl rfl), wof_n (by omega) (by omega) (by omega)]; exact (dsq_0 (by omega) x).mp h2⟩
    · obtain ⟨p, hp1, hp2, hp3⟩ := ih (by omega) h1
      exact ⟨p, hp1, by omega, by rw [h2, hp3, wof_go (by omega), beg_ltz (by omega)]⟩
theorem dsq_2 {n : Nat} : ∀ {t x : Nat}, t ≤ wl n → dsq n t 2 x → ∃ p q, 1 ≤ p ∧ p < q ∧ q ≤ t ∧ x = wof n p q t := by
  intro t
  induction t with
  | zero => intro x _ h; exact absurd h.1 (by omega)
  | succ t ih =>
    intro x ht h
    rcases h with ⟨e, h1, h2⟩ | ⟨y, h1, h2⟩
    · have e1 : e = 1 := by omega
      subst e1
      obtain ⟨p, hp1, hp2, hp3⟩ := dsq_1 (by omega) h2
      exact ⟨p, t + 1, hp1, by omega, by omega, by rw [wof_at (Or.inr rfl), wof_pq (by omega)]; exact hp3⟩
    · obtain ⟨p, q, hp1, hp2, hp3, hp4⟩ := ih (by omega) h1
      exact ⟨p, q, hp1, hp2, by omega, by rw [h2, hp4, wof_go (by omega), beg_ltz (by omega)]⟩
theorem lsd_iff {n p x : Nat} {L : List Nat} : ∀ s, x ∈ lsd n p L s ↔ x ∈ L ∨ ∃ t, t < s ∧ x = wof n p (p + t) (wl n) := by
  intro s
  induction s with
  | zero => exact ⟨fun h => Or.inl h, fun h => h.elim id (fun ⟨t, h1, _⟩ => by omega)⟩
  | succ s ih =>
    show x ∈ ins (lsd n p L s) _ ↔ _
    rw [ins_mem, ih]
    constructor
    · rintro ((h | ⟨t, h1, h2⟩) | h)
      · exact Or.inl h
      · exact Or.inr ⟨t, by omega, h2⟩
      · exact Or.inr ⟨s, by omega, h⟩
    · rintro (h | ⟨t, h1, h2⟩)
      · exact Or.inl (Or.inl h)
      · by_cases e : t = s
        · exact Or.inr (e ▸ h2)
        · exact Or.inl (Or.inr ⟨t, by omega, h2⟩)
theorem lpl_iff {k n x : Nat} : ∀ P, x ∈ lpl k n P ↔ ∃ p t, p < P ∧ t < scn k n p ∧ x = wof n p (p + t) (wl n) := by
  intro P
  induction P with
  | zero => exact ⟨fun h => absurd h List.not_mem_nil, fun ⟨p, t, h, _⟩ => by omega⟩
  | succ P ih =>
    show x ∈ lsd n P (lpl k n P) (scn k n P) ↔ _
    rw [lsd_iff, ih]
    constructor
    · rintro (⟨p, t, h1, h2⟩ | ⟨t, h1, h2⟩)
      · exact ⟨p, t, by omega, h2⟩
      · exact ⟨P, t, by omega, h1, h2⟩
    · rintro ⟨p, t, h1, h2, h3⟩
      by_cases e : p = P
      · subst e; exact Or.inr ⟨t, h2, h3⟩
      · exact Or.inl ⟨p, t, by omega, h2, h3⟩
theorem nbl_iff {k n : Nat} (hk : k ≤ 2) (x : Nat) : x ∈ nbl k n ↔ ∃ d, d ≤ k ∧ dsq n (wl n) d x := by
  unfold nbl
  rw [lpl_iff]
  constructor
  · rintro ⟨p, t, h1, h2, h3⟩
    refine ⟨wct p (p + t) (wl n), ?_, by rw [h3]; exact wof_d (Nat.le_refl _)⟩
    have hb := wct_b p (p + t) (wl n)
    unfold scn at h2
    by_cases k0 : 0 < k
    · by_cases k1 : 1 < k
      · have := hb.2.2.2; omega
      · rw [if_neg k1] at h2
        have := hb.2.2.1 (by omega); omega
    · rw [if_neg k0] at h1
      rw [if_neg (by omega)] at h2
      have e1 : p = 0 := by omega
      have e2 : t = 0 := by omega
      subst e1; subst e2
      rw [show 0 + 0 = 0 from rfl, wct_0]; exact Nat.zero_le _
  · rintro ⟨d, h1, h2⟩
    have hs : ∀ p, p ≤ wl n → 0 < scn k n p := fun p hp => by unfold scn; split <;> omega
    rcases (show d = 0 ∨ d = 1 ∨ d = 2 by omega) with e | e | e
    · subst e
      exact ⟨0, 0, by split <;> omega, hs 0 (by omega), by rw [wof_n (Nat.le_refl _) (Or.inl rfl) (Or.inl rfl)]; exact (dsq_0 (Nat.le_refl _) x).mp h2⟩
    · subst e
      obtain ⟨p, hp1, hp2, hp3⟩ := dsq_1 (Nat.le_refl _) h2
      exact ⟨p, 0, by rw [if_pos (by omega)]; omega, hs p hp2, hp3⟩
    · subst e
      obtain ⟨p, q, hp1, hp2, hp3, hp4⟩ := dsq_2 (Nat.le_refl _) h2
      exact ⟨p, q - p, by rw [if_pos (by omega)]; omega, by unfold scn; rw [if_pos (by omega)]; omega, by rw [show p + (q - p) = q by omega]; exact hp4⟩
/-! the class's way to write them -/
theorem q_mm {X M l : Nat} (h : l < 32) : (32 * X + l) % (32 * M) = 32 * (X % M) + l := by
  rcases Nat.eq_zero_or_pos M with h0 | h0
  · rw [h0, Nat.mul_zero, Nat.mod_zero, Nat.mod_zero]
  · have h1 := Nat.div_add_mod X M
    have h2 := Nat.mod_lt X h0
    have h3 : 32 * X + l = 32 * M * (X / M) + (32 * (X % M) + l) := by
      rw [Nat.mul_assoc]
      omega
    rw [h3, Nat.mul_add_mod]
    exact Nat.mod_eq_of_lt (by omega)
theorem wof_f1 {n i : Nat} (hi : 1 ≤ i) : ∀ e, i + e ≤ wl n → wof n i i (i + e) = beg n (i - 1) * 32 ^ e + beg n (i + e) % 32 ^ e := by
  intro e
  induction e with
  | zero =>
    intro h
    obtain ⟨j, rfl⟩ : ∃ j, i = j + 1 := ⟨i - 1, by omega⟩
    show wof n (j + 1) (j + 1) (j + 1) = _
    rw [wof_at (Or.inl rfl), wof_n (by omega) (by omega) (by omega), Nat.pow_zero, Nat.mod_one, Nat.mul_one]
    rfl
  | succ e ih =>
    intro h
    have h1 := ih (by omega)
    show wof n i i (i + e + 1) = _ + beg n (i + e + 1) % _
    rw [wof_go (by omega), h1, beg_ltz (by omega), beg_s (by omega), Nat.pow_succ, Nat.mul_comm (32 ^ e) 32, q_mm (ltz_32 n _), Nat.mul_add, ← Nat.mul_assoc, ← Nat.mul_assoc, Nat.mul_comm 32 (beg n (i - 1)), Nat.add_assoc]
theorem wof_f2 {n i j : Nat} (hi : 1 ≤ i) (hij : i < j) : ∀ e, j + e ≤ wl n → wof n i j (j + e) = wof n i i (j - 1) * 32 ^ e + beg n (j + e) % 32 ^ e := by
  intro e
  induction e with
  | zero =>
    intro h
    obtain ⟨j, rfl⟩ : ∃ j9, j = j9 + 1 := ⟨j - 1, by omega⟩
    show wof n i (j + 1) (j + 1) = _
    rw [wof_at (Or.inr rfl), wof_pq (by omega), Nat.pow_zero, Nat.mod_one, Nat.mul_one]
    rfl
  | succ e ih =>
    intro h
    have h1 := ih (by omega)
    show wof n i j (j + e + 1) = _ + beg n (j + e + 1) % _
    rw [wof_go (by omega), h1, beg_ltz (by omega), beg_s (by omega), Nat.pow_succ, Nat.mul_comm (32 ^ e) 32, q_mm (ltz_32 n _), Nat.mul_add, ← Nat.mul_assoc, ← Nat.mul_assoc, Nat.mul_comm 32 (wof n i i (j - 1)), Nat.add_assoc]
theorem wo_1 {n p : Nat} (hp : p < wl n) : wo n p = wof n (wl n - p) (wl n - p) (wl n) := by
  have h := wof_f1 (n := n) (i := wl n - p) (by omega) p (by omega)
  rw [show wl n - p + p = wl n by omega, beg_all] at h
  rw [h]
  unfold wo beg
  rw [show wl n - (wl n - p - 1) = p + 1 by omega]
theorem wo_2 {n p q : Nat} (hp : p < wl n) (hq : q < p) : wo (wo n p) q = wof n (wl n - p) (wl n - q) (wl n) := by
  have h := wof_f2 (n := n) (i := wl n - p) (j := wl n - q) (by omega) (by omega) q (by omega)
  rw [show wl n - q + q = wl n by omega, beg_all] at h
  rw [h]
  have h2 := wof_f1 (n := n) (i := wl n - p) (by omega) (p - q - 1) (by omega)
  rw [show wl n - p + (p - q - 1) = wl n - q - 1 by omega] at h2
  rw [h2]
  have e1 : beg n (wl n - p - 1) = n / 32 ^ (p + 1) := by unfold beg; rw [show wl n - (wl n - p - 1) = p + 1 by omega]
  have e2 : beg n (wl n - q - 1) = n / 32 ^ (q + 1) := by unfold beg; rw [show wl n - (wl n - q - 1) = q + 1 by omega]
  rw [e1, e2]
  have hp32 : 32 ^ p = 32 ^ (q + 1) * 32 ^ (p - q - 1) := by rw [← Nat.pow_add]; congr 1; omega
  have hpos : 0 < 32 ^ (q + 1) := Nat.pow_pos (by decide)
  have d1 : wo n p / 32 ^ (q + 1) = n / 32 ^ (p + 1) * 32 ^ (p - q - 1) + n / 32 ^ (q + 1) % 32 ^ (p - q - 1) := by
    unfold wo
    rw [← Nat.mod_mul_right_div_self, ← hp32]
    generalize n / 32 ^ (p + 1) = A
    generalize n % 32 ^ p = B
    rw [hp32, Nat.mul_comm (32 ^ (q + 1)), ← Nat.mul_assoc, Nat.add_comm, Nat.add_mul_div_right _ _ hpos, Nat.add_comm]
  have d2 : wo n p % 32 ^ q = n % 32 ^ q := by
    unfold wo
    have hpq : 32 ^ p = 32 ^ q * 32 ^ (p - q) := by rw [← Nat.pow_add]; congr 1; omega
    have hd : (32 ^ q) ∣ (32 ^ p) := ⟨_, hpq⟩
    rw [Nat.add_mod, Nat.mod_mod_of_dvd _ hd]
    have : n / 32 ^ (p + 1) * 32 ^ p % 32 ^ q = 0 := by rw [hpq, Nat.mul_left_comm, Nat.mul_mod_right]
    rw [this, Nat.zero_add, Nat.mod_mod]
  show wo n p / 32 ^ (q + 1) * 32 ^ q + wo n p % 32 ^ q = _
  rw [d1, d2]
theorem csi_iff {v p x : Nat} {L : List Nat} : ∀ q, x ∈ csi v p L q ↔ x ∈ L ∨ ∃ t, t < q ∧ x = wo (wo v p) t := by
  intro q
  induction q with
  | zero => exact ⟨fun h => Or.inl h, fun h => h.elim id (fun ⟨t, h1, _⟩ => by omega)⟩
  | succ q ih =>
    show x ∈ ins (csi v p L q) _ ↔ _
    rw [ins_mem, ih]
    constructor
    · rintro ((h | ⟨t, h1, h2⟩) | h)
      · exact Or.inl h
      · exact Or.inr ⟨t, by omega, h2⟩
      · exact Or.inr ⟨q, by omega, h⟩
    · rintro (h | ⟨t, h1, h2⟩)
      · exact Or.inl (Or.inl h)
      · by_cases e : t = q
        · exact Or.inr (e ▸ h2)
        · exact Or.inl (Or.inr ⟨t, by omega, h2⟩)
theorem cso_iff {k v x : Nat} : ∀ P, x ∈ cso k v P ↔ x = v ∨ (∃ p, p < P ∧ x = wo v p) ∨ (2 ≤ k ∧ ∃ p t, p < P ∧ t < p ∧ x = wo (wo v p) t) := by
  intro P
  induction P with
  | zero =>
    show x ∈ ins [] v ↔ _
    rw [ins_mem]
    exact ⟨fun h => h.elim (fun h1 => absurd h1 List.not_mem_nil) Or.inl, fun h => by
      rcases h with h | ⟨p, h1, _⟩ | ⟨_, p, t, h1, _⟩
      · exact Or.inr h
      · omega
      · omega⟩
  | succ P ih =>
    by_cases hk : 2 ≤ k
    · rw [show cso k v (P + 1) = csi v P (ins (cso k v P) (wo v P)) P from if_pos hk, csi_iff, ins_mem, ih]
      constructor
      · rintro (((h | ⟨p, h1, h2⟩ | ⟨_, p, t, h1, h2, h3⟩) | h) | ⟨t, h1, h2⟩)
        · exact Or.inl h
        · exact Or.inr (Or.inl ⟨p, by omega, h2⟩)
        · exact Or.inr (Or.inr ⟨hk, p, t, by omega, h2, h3⟩)
        · exact Or.inr (Or.inl ⟨P, by omega, h⟩)
        · exact Or.inr (Or.inr ⟨hk, P, t, by omega, h1, h2⟩)
      · rintro (h | ⟨p, h1, h2⟩ | ⟨_, p, t, h1, h2, h3⟩)
        · exact Or.inl (Or.inl (Or.inl h))
        · by_cases e : p = P
          · subst e; exact Or.inl (Or.inr h2)
          · exact Or.inl (Or.inl (Or.inr (Or.inl ⟨p, by omega, h2⟩)))
        · by_cases e : p = P
          · subst e; exact Or.inr ⟨t, h2, h3⟩
          · exact Or.inl (Or.inl (Or.inr (Or.inr ⟨hk, p, t, by omega, h2, h3⟩)))
    · rw [show cso k v (P + 1) = ins (cso k v P) (wo v P) from if_neg hk, ins_mem, ih]
      constructor
      · rintro ((h | ⟨p, h1, h2⟩ | ⟨h0, _⟩) | h)
        · exact Or.inl h
        · exact Or.inr (Or.inl ⟨p, by omega, h2⟩)
        · exact absurd h0 hk
        · exact Or.inr (Or.inl ⟨P, by omega, h⟩)
      · rintro (h | ⟨p, h1, h2⟩ | ⟨h0, _⟩)
        · exact Or.inl (Or.inl h)
        · by_cases e : p = P
          · subst e; exact Or.inr h2
          · exact Or.inl (Or.inr (Or.inl ⟨p, by omega, h2⟩))
        · exact absurd h0 hk
theorem csq_iff {k v : Nat} (hk : k ≤ 2) (x : Nat) : x ∈ csq k v ↔ ∃ d, d ≤ k ∧ dsq v (wl v) d x := by
  unfold csq
  rw [cso_iff]
  constructor
  · rintro (h | ⟨p, h1, h2⟩ | ⟨h0, p, t, h1, h2, h3⟩)
    · exact ⟨0, Nat.zero_le _, (dsq_0 (Nat.le_refl _) x).mpr (by rw [beg_all]; exact h)⟩
    · by_cases k1 : 1 ≤ k
      · rw [if_pos k1] at h1
        have h3 := wof_d (n := v) (p := wl v - p) (q := wl v - p) (Nat.le_refl _)
        rw [← wo_1 h1, ← h2] at h3
        exact ⟨_, Nat.le_trans ((wct_b (wl v - p) (wl v - p) (wl v)).2.2.1 rfl) k1, h3⟩
      · rw [if_neg k1] at h1; omega
    · rw [if_pos (by omega)] at h1
      have h4 := wof_d (n := v) (p := wl v - p) (q := wl v - t) (Nat.le_refl _)
      rw [← wo_2 h1 h2, ← h3] at h4
      exact ⟨_, Nat.le_trans (wct_b (wl v - p) (wl v - t) (wl v)).2.2.2 h0, h4⟩
  · rintro ⟨d, h1, h2⟩
    rcases (show d = 0 ∨ d = 1 ∨ d = 2 by omega) with e | e | e
    · subst e
      have := (dsq_0 (Nat.le_refl _) x).mp h2
      rw [beg_all] at this
      exact Or.inl this
    · subst e
      obtain ⟨p, hp1, hp2, hp3⟩ := dsq_1 (Nat.le_refl _) h2
      refine Or.inr (Or.inl ⟨wl v - p, by rw [if_pos (by omega)]; omega, ?_⟩)
      rw [wo_1 (by omega), show wl v - (wl v - p) = p by omega]
      exact hp3
    · subst e
      obtain ⟨p, q, hp1, hp2, hp3, hp4⟩ := dsq_2 (Nat.le_refl _) h2
      refine Or.inr (Or.inr ⟨by omega, wl v - p, wl v - q, by rw [if_pos (by omega)]; omega, by omega, ?_⟩)
      rw [wo_2 (by omega) (by omega), show wl v - (wl v - p) = p by omega, show wl v - (wl v - q) = q by omega]
      exact hp4
theorem lsd_nd {n p : Nat} {L : List Nat} (h : L.Nodup) : ∀ s, (lsd n p L s).Nodup := by
  intro s
  induction s with
  | zero => exact h
  | succ s ih => exact ins_nd ih
theorem lpl_nd {k n : Nat} : ∀ P, (lpl k n P).Nodup := by
  intro P
  induction P with
  | zero => exact List.nodup_nil
  | succ P ih => exact lsd_nd ih _
theorem csi_nd {v p : Nat} {L : List Nat} (h : L.Nodup) : ∀ q, (csi v p L q).Nodup := by
  intro q
  induction q with
  | zero => exact h
  | succ q ih => exact ins_nd ih
theorem cso_nd {k v : Nat} : ∀ P, (cso k v P).Nodup := by
  intro P
  induction P with
  | zero => exact ins_nd List.nodup_nil
  | succ P ih =>
    unfold cso
    split
    · exact csi_nd (ins_nd ih) P
    · exact ins_nd ih
theorem nbh_eq {k v : Nat} (hk : k ≤ 2) : (csq k v).length = (nbl k v).length :=
  q_nd_eq (cso_nd _) (lpl_nd _) (fun x => by rw [csq_iff hk, nbl_iff hk])
/-! common sequences -/
theorem lcs_mono (a b : Nat → Nat) : ∀ i, (∀ j, lcs a b i j ≤ lcs a b i (j + 1) ∧ lcs a b i (j + 1) ≤ lcs a b i j + 1) ∧ ∀ j, lcs a b i j ≤ lcs a b (i + 1) j ∧ lcs a b (i + 1) j ≤ lcs a b i j + 1 := by
  have step : ∀ i, (∀ j, lcs a b i j ≤ lcs a b i (j + 1) ∧ lcs a b i (j + 1) ≤ lcs a b i j + 1) → (∀ j, lcs a b i j ≤ lcs a b (i + 1) j ∧ lcs a b (i + 1) j ≤ lcs a b i j + 1) ∧ ∀ j, lcs a b (i + 1) j ≤ lcs a b (i + 1) (j + 1) ∧ lcs a b (i + 1) (j + 1) ≤ lcs a b (i + 1) j + 1 := by
    intro i hp
    have hq : ∀ j, (lcs a b i j ≤ lcs a b (i + 1) j ∧ lcs a b (i + 1) j ≤ lcs a b i j + 1) ∧ (lcs a b (i + 1) j ≤ lcs a b (i + 1) (j + 1) ∧ lcs a b (i + 1) (j + 1) ≤ lcs a b (i + 1) j + 1) := by
      intro j
      induction j with
      | zero =>
        have h1 : lcs a b i 0 = 0 := lcs_s0 a b i
        have h2 : lcs a b (i + 1) 0 = 0 := lcs_s0 a b (i + 1)
        have h3 := hp 0
        have h4 := lcs_ss a b i 0
        refine ⟨by omega, ?_⟩
        rw [h4]
        split <;> omega
      | succ j ih =>
        have h3 := hp j
        have h5 := hp (j + 1)
        have h4 := lcs_ss a b i j
        have h6 := lcs_ss a b i (j + 1)
        have hA : lcs a b i (j + 1) ≤ lcs a b (i + 1) (j + 1) ∧ lcs a b (i + 1) (j + 1) ≤ lcs a b i (j + 1) + 1 := by
          rw [h4]; split <;> omega
        refine ⟨hA, ?_⟩
        rw [h6]
        split <;> omega
    exact ⟨fun j => (hq j).1, fun j => (hq j).2⟩
  intro i
  induction i with
  | zero =>
    have h0 : ∀ j, lcs a b 0 j ≤ lcs a b 0 (j + 1) ∧ lcs a b 0 (j + 1) ≤ lcs a b 0 j + 1 := fun j => ⟨Nat.le_refl _, Nat.le_succ _⟩
    exact ⟨h0, (step 0 h0).1⟩
  | succ i ih => exact ⟨(step i ih.1).2, (step (i + 1) (step i ih.1).2).1⟩
theorem lcs_le2 (a b : Nat → Nat) : ∀ i j, lcs a b i j ≤ j := by
  intro i j
  induction j with
  | zero => rw [lcs_s0]; omega
  | succ j ih => have := (lcs_mono a b i).1 j; omega
theorem lcs_to {a b : Nat} : ∀ i j L, L ≤ lcs (ltz a) (ltz b) i j → ∃ x, dsq a i (i - L) x ∧ dsq b j (j - L) x := by
  intro i
  induction i with
  | zero =>
    intro j L h
    rw [lcs_0] at h
    have e : L = 0 := by omega
    subst e
    exact ⟨0, dsq_all a 0, dsq_all b j⟩
  | succ i ih =>
    intro j
    induction j with
    | zero =>
      intro L h
      rw [lcs_s0] at h
      have e : L = 0 := by omega
      subst e
      exact ⟨0, dsq_all a (i + 1), dsq_all b 0⟩
    | succ j ih2 =>
      intro L h
      rw [lcs_ss] at h
      by_cases he : ltz a i = ltz b j
      · rw [if_pos he] at h
        cases L with
        | zero => exact ⟨0, dsq_all a (i + 1), dsq_all b (j + 1)⟩
        | succ L =>
          obtain ⟨x, h1, h2⟩ := ih j L (by omega)
          refine ⟨32 * x + ltz a i, Or.inr ⟨x, ?_, rfl⟩, Or.inr ⟨x, ?_, by rw [he]⟩⟩
          · rw [show i + 1 - (L + 1) = i - L by omega]; exact h1
          · rw [show j + 1 - (L + 1) = j - L by omega]; exact h2
      · rw [if_neg he] at h
        by_cases h1 : L ≤ lcs (ltz a) (ltz b) i (j + 1)
        · obtain ⟨x, h2, h3⟩ := ih (j + 1) L h1
          have := lcs_le (ltz a) (ltz b) i (j + 1)
          exact ⟨x, Or.inl ⟨i - L, by omega, h2⟩, h3⟩
        · have h4 : L ≤ lcs (ltz a) (ltz b) (i + 1) j := by omega
          obtain ⟨x, h2, h3⟩ := ih2 L h4
          have := lcs_le2 (ltz a) (ltz b) (i + 1) j
          exact ⟨x, h2, Or.inl ⟨j - L, by omega, h3⟩⟩
theorem lcs_of {a b : Nat} (ha : gw a) (hb : gw b) : ∀ i j d1 d2 x, i ≤ wl a → j ≤ wl b → dsq a i d1 x → dsq b j d2 x → i - d1 ≤ lcs (ltz a) (ltz b) i j := by
  intro i
  induction i with
  | zero => intro j d1 d2 x _ _ _ _; omega
  | succ i ih =>
    intro j
    induction j with
    | zero =>
      intro d1 d2 x hi hj h1 h2
      have e1 := dsq_wl ha hi h1
      have e2 := dsq_wl hb hj h2
      omega
    | succ j ih2 =>
      intro d1 d2 x hi hj h1 h2
      have e1 := dsq_wl ha hi h1
      have e2 := dsq_wl hb hj h2
      have m1 := (lcs_mono (ltz a) (ltz b) i).2 (j + 1)
      have m2 := (lcs_mono (ltz a) (ltz b) (i + 1)).1 j
      rcases h1 with ⟨c1, h3, h4⟩ | ⟨y1, h3, h4⟩
      · have := ih (j + 1) c1 d2 x (by omega) hj h4 h2
        omega
      · rcases h2 with ⟨c2, h5, h6⟩ | ⟨y2, h5, h6⟩
        · have := ih2 d1 c2 x hi (by omega) (Or.inr ⟨y1, h3, h4⟩) h6
          omega
        · have l1 := ltz_32 a i
          have l2 := ltz_32 b j
          have e3 : ltz a i = ltz b j := by omega
          have e4 : y1 = y2 := by omega
          subst e4
          have := ih j d1 d2 y1 (by omega) (by omega) h3 h5
          rw [lcs_ss, if_pos e3]
          have := dsq_le h3
          omega
/-- a candidate, from both sides -/
theorem cand_iff {k : Nat} (hk : k ≤ 2) {b v : Nat} (hb : gw b) (hv : gw v) : (∃ x ∈ nbl k v, x ∈ nbl k b) ↔ max (wl b) (wl v) ≤ lcs (ltz b) (ltz v) (wl b) (wl v) + k := by
  constructor
  · rintro ⟨x, h1, h2⟩
    obtain ⟨d1, h3, h4⟩ := (nbl_iff hk x).mp h1
    obtain ⟨d2, h5, h6⟩ := (nbl_iff hk x).mp h2
    have h7 := lcs_of hb hv (wl b) (wl v) d2 d1 x (Nat.le_refl _) (Nat.le_refl _) h6 h4
    have e1 := dsq_wl hv (Nat.le_refl _) h4
    have e2 := dsq_wl hb (Nat.le_refl _) h6
    have := dsq_le h4
    have := dsq_le h6
    omega
  · intro h
    obtain ⟨x, h1, h2⟩ := lcs_to (a := b) (b := v) (wl b) (wl v) _ (Nat.le_refl _)
    exact ⟨x, (nbl_iff hk x).mpr ⟨_, by omega, h2⟩, (nbl_iff hk x).mpr ⟨_, by omega, h1⟩⟩
