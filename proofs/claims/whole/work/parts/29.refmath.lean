/-! what the reference's numbers are -/
theorem q_upf_nI {g : Nat → Nat} {i v : Nat} : upd (fun k9 => nI (g k9)) i (nI v) = fun k9 => nI (va_up g i v k9) := by
  funext j; by_cases e : j = i
  · subst e; rw [pk_us, q_ups]
  · rw [pk_un e, q_upn e]
theorem q_upf_lN {g : Nat → Nat} {i v : Nat} : vp_updL (fun k9 => lN (g k9)) i (lN v) = fun k9 => lN (va_up g i v k9) := by
  funext j; by_cases e : j = i
  · subst e; rw [pk_uLs, q_ups]
  · rw [pk_uLn e, q_upn e]
/-- a place, or -1 -/
def pin : Option Nat → Int32
  | none => -1
  | some i => nI i
theorem q_upf_pin {g : Nat → Option Nat} {i : Nat} {v : Option Nat} : upd (fun k9 => pin (g k9)) i (pin v) = fun k9 => pin (va_up g i v k9) := by
  funext j; by_cases e : j = i
  · subst e; rw [pk_us, q_ups]
  · rw [pk_un e, q_upn e]
theorem okd_13 {n : Nat} : okd 10 n = true ↔ wl n ≤ 10 ∧ okd 13 n = true := by
  have mono : ∀ (f g k : Nat), f ≤ g → okd f k = true → okd g k = true := by
    intro f
    induction f with
    | zero => intro g k _ h; rw [okd_0.mp h]; exact okd_z g
    | succ f ih =>
      intro g k hg h
      obtain ⟨g, rfl⟩ : ∃ q, g = q + 1 := ⟨g - 1, by omega⟩
      rcases Nat.eq_zero_or_pos k with h1 | h1
      · rw [h1]; exact okd_z _
      · have := (okd_s h1).mp h
        exact (okd_s h1).mpr ⟨this.1, ih g _ (by omega) this.2⟩
  have back : ∀ (f g k : Nat), wl k ≤ f → okd g k = true → okd f k = true := by
    intro f
    induction f with
    | zero => intro g k hw _; rw [wl_z (k := k) (by omega)]; exact okd_z 0
    | succ f ih =>
      intro g k hw h
      rcases Nat.eq_zero_or_pos k with h1 | h1
      · rw [h1]; exact okd_z _
      · cases g with
        | zero => rw [okd_0] at h; omega
        | succ g =>
          have h2 := (okd_s h1).mp h
          exact (okd_s h1).mpr ⟨h2.1, ih g _ (by have := wl_s h1; omega) h2.2⟩
  exact ⟨fun h => ⟨okd_wl h, mono 10 13 n (by omega) h⟩, fun h => back 10 13 n h.1 h.2⟩
theorem okd_13s {r : Nat} (h : 0 < r) (hr : r < 2 ^ 63) : okd 13 r = true ↔ (1 ≤ r % 32 ∧ r % 32 ≤ 26) ∧ okd 13 (r / 32) = true := by
  rw [okd_s h]
  have h2 : r / 32 < 32 ^ 12 := by have : (32 : Nat) ^ 12 = 2 ^ 60 := by decide
                                   omega
  have h3 : okd 12 (r / 32) = true ↔ okd 13 (r / 32) = true := by
    have : wl (r / 32) ≤ 12 := by
      rcases Nat.eq_zero_or_pos (r / 32) with h1 | h1
      · rw [h1, wl_0]; omega
      · have h4 := wl_ge h1
        by_cases h5 : wl (r / 32) ≤ 12
        · exact h5
        · have h6 : 32 ^ 12 ≤ 32 ^ (wl (r / 32) - 1) := Nat.pow_le_pow_right (by decide) (by omega)
          omega
    have gen : ∀ (f g k : Nat), wl k ≤ f → okd g k = true → okd f k = true := by
      intro f
      induction f with
      | zero => intro g k hw _; rw [wl_z (k := k) (by omega)]; exact okd_z 0
      | succ f ih =>
        intro g k hw h
        rcases Nat.eq_zero_or_pos k with h1 | h1
        · rw [h1]; exact okd_z _
        · cases g with
          | zero => rw [okd_0] at h; omega
          | succ g =>
            have h2 := (okd_s h1).mp h
            exact (okd_s h1).mpr ⟨h2.1, ih g _ (by have := wl_s h1; omega) h2.2⟩
    exact ⟨gen 13 12 _ (by omega), gen 12 13 _ this⟩
  rw [h3]
theorem gw_iff {n : Nat} : gw n ↔ (0 < n ∧ wl n ≤ 10) ∧ okd 13 n = true := by
  rw [show gw n = (0 < n ∧ okd 10 n = true) from rfl, okd_13]
  exact ⟨fun h => ⟨⟨h.1, h.2.1⟩, h.2.2⟩, fun h => ⟨h.1.1, h.1.2, h.2⟩⟩
/-- the first letters -/
def beg (n k : Nat) : Nat := n / 32 ^ (wl n - k)
theorem wl_13 {n : Nat} (h : n < 2 ^ 63) : wl n ≤ 13 := by
  rcases Nat.eq_zero_or_pos n with h1 | h1
  · rw [h1, wl_0]; omega
  · have h4 := wl_ge h1
    by_cases h5 : wl n ≤ 13
    · exact h5
    · have h6 : 32 ^ 13 ≤ 32 ^ (wl n - 1) := Nat.pow_le_pow_right (by decide) (by omega)
      have : (32 : Nat) ^ 13 = 2 ^ 65 := by decide
      omega
/-- the digit at a place from the left, while the word is taken apart from the right -/
theorem lay_dg {a i r : Nat} (hi : i < wl a) (hr : r = a / 32 ^ (wl a - (i + 1))) : r % 32 = ltz a i := by
  rw [ltz_in hi, hr]; unfold lt; rw [show wl a - (i + 1) = wl a - 1 - i by omega]
theorem lay_s {a i r : Nat} (hi : i < wl a) (hr : r = a / 32 ^ (wl a - (i + 1))) : r / 32 = a / 32 ^ (wl a - i) := by
  rw [hr, Nat.div_div_eq_div_mul, ← Nat.pow_succ]; congr 2; omega
/-- the last place below n that has it -/
theorem ffi_last {P : Nat → Bool} {i : Nat} (hu : ∀ j, j < i → P j = true → P i = true → False) : (if P i = true then some i else ffi P i) = ffi P (i + 1) := by
  show _ = (match ffi P i with | some i => some i | none => if P i then some i else none)
  cases e : ffi P i with
  | none => rfl
  | some x =>
    have h := ffi_some e
    by_cases hp : P i = true
    · exact (hu x h.1 h.2 hp).elim
    · rw [if_neg hp]
