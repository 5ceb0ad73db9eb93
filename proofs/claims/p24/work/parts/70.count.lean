/-! counting, orders, enumerations -/
theorem q_nd_le : ∀ {l1 l2 : List Nat}, l1.Nodup → (∀ x, x ∈ l1 → x ∈ l2) → l1.length ≤ l2.length := by
  intro l1
  induction l1 with
  | nil => intro l2 _ _; exact Nat.zero_le _
  | cons a l ih =>
    intro l2 h1 hs
    have ha : a ∈ l2 := hs a List.mem_cons_self
    have hnd := List.nodup_cons.mp h1
    have h2 := ih (l2 := l2.erase a) hnd.2 (fun x hx => by
      have hne : x ≠ a := fun e => hnd.1 (e ▸ hx)
      exact (List.mem_erase_of_ne hne).mpr (hs x (List.mem_cons_of_mem _ hx)))
    have hl := List.length_erase_of_mem ha
    have hp : 0 < l2.length := List.length_pos_of_mem ha
    show l.length + 1 ≤ _
    omega
theorem q_nd_eq {l1 l2 : List Nat} (h1 : l1.Nodup) (h2 : l2.Nodup) (h : ∀ x, x ∈ l1 ↔ x ∈ l2) : l1.length = l2.length :=
  Nat.le_antisymm (q_nd_le h1 (fun x hx => (h x).mp hx)) (q_nd_le h2 (fun x hx => (h x).mpr hx))
theorem q_nd_app {l : List Nat} {a : Nat} (h : l.Nodup) (ha : a ∉ l) : (l ++ [a]).Nodup := by
  refine List.nodup_append.mpr ⟨h, List.nodup_cons.mpr ⟨List.not_mem_nil, List.nodup_nil⟩, ?_⟩
  intro x hx y hy e
  rw [List.mem_singleton.mp hy] at e
  exact ha (e ▸ hx)
theorem q_mem_app {l : List Nat} {a x : Nat} : x ∈ l ++ [a] ↔ x ∈ l ∨ x = a := by
  rw [List.mem_append, List.mem_singleton]
def cnl (P : Nat → Bool) : Nat → List Nat
  | 0 => []
  | n + 1 => if P n then cnl P n ++ [n] else cnl P n
theorem cnl_t {P : Nat → Bool} {n : Nat} (h : P n = true) : cnl P (n + 1) = cnl P n ++ [n] := if_pos h
theorem cnl_f {P : Nat → Bool} {n : Nat} (h : ¬ P n = true) : cnl P (n + 1) = cnl P n := if_neg h
theorem cnl_len (P : Nat → Bool) : ∀ n, (cnl P n).length = cnt P n := by
  intro n
  induction n with
  | zero => rfl
  | succ n ih =>
    by_cases h : P n = true
    · rw [cnl_t h, cnt_t h, List.length_append, ih]; rfl
    · rw [cnl_f h, cnt_f h, ih]
theorem cnl_mem {P : Nat → Bool} {x : Nat} : ∀ n, x ∈ cnl P n ↔ x < n ∧ P x = true := by
  intro n
  induction n with
  | zero => exact ⟨fun h => absurd h List.not_mem_nil, fun h => by omega⟩
  | succ n ih =>
    by_cases h : P n = true
    · rw [cnl_t h, q_mem_app, ih]
      constructor
      · rintro (⟨h1, h2⟩ | h1)
        · exact ⟨by omega, h2⟩
        · rw [h1]; exact ⟨by omega, h⟩
      · rintro ⟨h1, h2⟩
        by_cases e : x = n
        · exact Or.inr e
        · exact Or.inl ⟨by omega, h2⟩
    · rw [cnl_f h, ih]
      constructor
      · rintro ⟨h1, h2⟩; exact ⟨by omega, h2⟩
      · rintro ⟨h1, h2⟩
        refine ⟨?_, h2⟩
        by_cases e : x = n
        · rw [e] at h2; exact absurd h2 h
        · omega
theorem cnl_nd (P : Nat → Bool) : ∀ n, (cnl P n).Nodup := by
  intro n
  induction n with
  | zero => exact List.nodup_nil
  | succ n ih =>
    by_cases h : P n = true
    · rw [cnl_t h]; exact q_nd_app ih (fun h2 => by have := (cnl_mem n).mp h2; omega)
    · rw [cnl_f h]; exact ih
theorem rg_mem {f : Nat → Nat} {x m : Nat} : x ∈ rg f m ↔ ∃ j, j < m ∧ f j = x := by
  unfold rg
  rw [List.mem_map]
  exact ⟨fun ⟨j, h1, h2⟩ => ⟨j, List.mem_range.mp h1, h2⟩, fun ⟨j, h1, h2⟩ => ⟨j, List.mem_range.mpr h1, h2⟩⟩
theorem rg_nd {f : Nat → Nat} : ∀ {m : Nat}, (∀ i j, i < m → j < m → f i = f j → i = j) → (rg f m).Nodup := by
  intro m
  induction m with
  | zero => intro _; exact List.nodup_nil
  | succ m ih =>
    intro h
    rw [rg_sn (f := f) (f' := f) (fun _ _ => rfl)]
    refine q_nd_app (ih (fun i j hi hj => h i j (by omega) (by omega))) (fun hm => ?_)
    obtain ⟨j, hj, e⟩ := rg_mem.mp hm
    have := h j m (by omega) (by omega) e
    omega
/-- as many as are enumerated -/
theorem cnt_bij {P : Nat → Bool} {n m : Nat} {e : Nat → Nat} (h1 : ∀ j, j < m → e j < n ∧ P (e j) = true) (h2 : ∀ i j, i < m → j < m → e i = e j → i = j) (h3 : ∀ i, i < n → P i = true → ∃ j, j < m ∧ e j = i) : cnt P n = m := by
  have h4 := q_nd_eq (cnl_nd P n) (rg_nd h2) (fun x => by
    rw [cnl_mem, rg_mem]
    constructor
    · rintro ⟨a, b⟩; exact h3 x a b
    · rintro ⟨j, hj, rfl⟩; exact h1 j hj)
  rw [cnl_len, rg_len] at h4
  exact h4
theorem lwd_eq {P : Nat → Bool} {wd : Nat → Nat} {x : Nat} : ∀ {n : Nat}, x < n → P x = true → (∀ y, y < n → P y = true → y = x) → lwd P wd n = wd x := by
  intro n
  induction n with
  | zero => intro h; omega
  | succ n ih =>
    intro hx hP hu
    show (if P n then wd n else lwd P wd n) = wd x
    by_cases h : P n = true
    · rw [if_pos h, hu n (by omega) h]
    · rw [if_neg h]
      have : x ≠ n := fun e => h (e ▸ hP)
      exact ih (by omega) hP (fun y hy => hu y (by omega))
section EN
variable {SB : Nat → Bool} {T : Nat → Nat → Prop} {e : Nat → Nat} {n m : Nat}
theorem en_inj (hT : ∀ i j, i < j → j < m → T (e i) (e j)) (ha : ∀ x y, T x y → ¬ T y x) : ∀ i j, i < m → j < m → e i = e j → i = j := by
  intro i j hi hj h
  rcases Nat.lt_trichotomy i j with h1 | h1 | h1
  · have := hT i j h1 hj; rw [h] at this; exact absurd this (ha _ _ this)
  · exact h1
  · have := hT j i h1 hi; rw [h] at this; exact absurd this (ha _ _ this)
theorem en_cnt (h1 : ∀ j, j < m → e j < n ∧ SB (e j) = true) (h3 : ∀ i, i < n → SB i = true → ∃ j, j < m ∧ e j = i) (hT : ∀ i j, i < j → j < m → T (e i) (e j)) (ha : ∀ x y, T x y → ¬ T y x) : cnt SB n = m :=
  cnt_bij h1 (en_inj hT ha) h3
theorem en_rank {PB : Nat → Nat → Bool} (h1 : ∀ j, j < m → e j < n ∧ SB (e j) = true) (h3 : ∀ i, i < n → SB i = true → ∃ j, j < m ∧ e j = i) (hT : ∀ i j, i < j → j < m → T (e i) (e j)) (ha : ∀ x y, T x y → ¬ T y x)
    (hPB : ∀ j k, PB j k = true ↔ (SB j = true ∧ T j k)) {p : Nat} (hp : p < m) : cnt (fun j => PB j (e p)) n = p := by
  refine cnt_bij (e := e) (fun j hj => ⟨(h1 j (by omega)).1, (hPB _ _).mpr ⟨(h1 j (by omega)).2, hT j p hj hp⟩⟩) (fun i j hi hj => en_inj hT ha i j (by omega) (by omega)) (fun i hi h => ?_)
  obtain ⟨hs, ht⟩ := (hPB _ _).mp h
  obtain ⟨j, hj, rfl⟩ := h3 i hi hs
  refine ⟨j, ?_, rfl⟩
  rcases Nat.lt_trichotomy j p with h5 | h5 | h5
  · exact h5
  · rw [h5] at ht; exact absurd ht (ha _ _ ht)
  · exact absurd (hT p j h5 hj) (ha _ _ ht)
/-- the one at a place of the order -/
theorem en_lwd {PB : Nat → Nat → Bool} {FB : Nat → Bool} {wd : Nat → Nat} (h1 : ∀ j, j < m → e j < n ∧ SB (e j) = true) (h3 : ∀ i, i < n → SB i = true → ∃ j, j < m ∧ e j = i) (hT : ∀ i j, i < j → j < m → T (e i) (e j)) (ha : ∀ x y, T x y → ¬ T y x)
    (hPB : ∀ j k, PB j k = true ↔ (SB j = true ∧ T j k)) {p : Nat} (hp : p < m) (hFB : ∀ k, FB k = true ↔ (SB k = true ∧ cnt (fun j => PB j k) n = p)) : lwd FB wd n = wd (e p) := by
  refine lwd_eq (h1 p hp).1 ((hFB _).mpr ⟨(h1 p hp).2, en_rank h1 h3 hT ha hPB hp⟩) (fun y hy h => ?_)
  obtain ⟨hs, hc⟩ := (hFB _).mp h
  obtain ⟨j, hj, rfl⟩ := h3 y hy hs
  rw [en_rank h1 h3 hT ha hPB hj] at hc
  rw [hc]
end EN
theorem cnt_all {P : Nat → Bool} : ∀ {r : Nat}, (∀ j, j < r → P j = true) → cnt P r = r := by
  intro r
  induction r with
  | zero => intro _; rfl
  | succ r ih => intro h; rw [cnt_t (h r (by omega)), ih (fun j hj => h j (by omega))]
theorem cnt_pre {P : Nat → Bool} : ∀ {r : Nat}, (∀ i j, i < j → j < r → P j = true → P i = true) → ∀ j, j < r → (P j = true ↔ j < cnt P r) := by
  intro r
  induction r with
  | zero => intro _ j hj; omega
  | succ r ih =>
    intro h j hj
    by_cases hr : P r = true
    · have hall : ∀ i, i < r + 1 → P i = true := fun i hi => by
        by_cases e : i = r
        · rw [e]; exact hr
        · exact h i r (by omega) (by omega) hr
      rw [cnt_all hall]
      exact ⟨fun _ => hj, fun _ => hall j hj⟩
    · rw [cnt_f hr]
      by_cases e : j = r
      · rw [e]
        have := cnt_le P r
        exact ⟨fun h9 => absurd h9 hr, fun h9 => by omega⟩
      · exact ih (fun a b hab hb => h a b hab (by omega)) j (by omega)
/-- one more, put where it belongs -/
theorem ins_sort {T : Nat → Nat → Prop} {f : Nat → Nat} {r x : Nat} {P : Nat → Bool} (hP : ∀ j, j < r → (P j = true ↔ T (f j) x)) (hs : ∀ i j, i < j → j < r → T (f i) (f j)) (htr : ∀ a b c, T a b → T b c → T a c)
    (hto : ∀ j, j < r → T (f j) x ∨ T x (f j)) : ∀ i j, i < j → j < r + 1 → T (insF f (cnt P r) x i) (insF f (cnt P r) x j) := by
  have hpre := cnt_pre (P := P) (r := r) (fun i j hij hj h => (hP i (by omega)).mpr (htr _ _ _ (hs i j hij hj) ((hP j hj).mp h)))
  have hle := cnt_le P r
  generalize cnt P r = p at hpre hle ⊢
  intro i j hij hj
  unfold insF
  by_cases h1 : i < p
  · rw [if_pos h1]
    by_cases h2 : j < p
    · rw [if_pos h2]; exact hs i j hij (by omega)
    · rw [if_neg h2]
      by_cases h3 : j = p
      · rw [if_pos h3]; exact (hP i (by omega)).mp ((hpre i (by omega)).mpr h1)
      · rw [if_neg h3]; exact hs i (j - 1) (by omega) (by omega)
  · rw [if_neg h1, if_neg (show ¬ j < p by omega), if_neg (show ¬ j = p by omega)]
    by_cases h2 : i = p
    · rw [if_pos h2]
      rcases hto (j - 1) (by omega) with h3 | h3
      · have := (hpre (j - 1) (by omega)).mp ((hP (j - 1) (by omega)).mpr h3)
        omega
      · exact h3
    · rw [if_neg h2]; exact hs (i - 1) (j - 1) (by omega) (by omega)
theorem insF_sur {f : Nat → Nat} {p x r y : Nat} (hp : p ≤ r) (h : (∃ j, j < r ∧ f j = y) ∨ y = x) : ∃ j, j < r + 1 ∧ insF f p x j = y := by
  unfold insF
  rcases h with ⟨j, hj, e⟩ | e
  · by_cases h1 : j < p
    · exact ⟨j, by omega, by rw [if_pos h1]; exact e⟩
    · exact ⟨j + 1, by omega, by rw [if_neg (by omega), if_neg (by omega)]; exact e⟩
  · exact ⟨p, by omega, by rw [if_neg (by omega), if_pos rfl]; exact e.symm⟩
theorem remF_mem {f : Nat → Nat} {p r j : Nat} (hp : p < r) (hj : j < r - 1) : ∃ i, i < r ∧ i ≠ p ∧ remF f p j = f i := by
  unfold remF
  by_cases h1 : j < p
  · exact ⟨j, by omega, by omega, by rw [if_pos h1]⟩
  · exact ⟨j + 1, by omega, by omega, by rw [if_neg h1]⟩
theorem remF_sur {f : Nat → Nat} {p r y : Nat} (hp : p < r) (h : ∃ j, j < r ∧ j ≠ p ∧ f j = y) : ∃ j, j < r - 1 ∧ remF f p j = y := by
  obtain ⟨j, h1, h2, h3⟩ := h
  unfold remF
  by_cases h4 : j < p
  · exact ⟨j, by omega, by rw [if_pos h4]; exact h3⟩
  · exact ⟨j - 1, by omega, by rw [if_neg (by omega), show j - 1 + 1 = j by omega]; exact h3⟩
theorem remF_sort {T : Nat → Nat → Prop} {f : Nat → Nat} {p r : Nat} (hs : ∀ i j, i < j → j < r → T (f i) (f j)) : ∀ i j, i < j → j < r - 1 → T (remF f p i) (remF f p j) := by
  intro i j hij hj
  unfold remF
  by_cases h1 : j < p
  · rw [if_pos h1, if_pos (by omega)]; exact hs i j hij (by omega)
  · rw [if_neg h1]
    by_cases h2 : i < p
    · rw [if_pos h2]; exact hs i (j + 1) (by omega) (by omega)
    · rw [if_neg h2]; exact hs (i + 1) (j + 1) (by omega) (by omega)
