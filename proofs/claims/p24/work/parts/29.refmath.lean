/-! what the reference's numbers are -/
theorem q_upf_nI {g : Nat → Nat} {i v : Nat} : upd (fun k9 => nI (g k9)) i (nI v) = fun k9 => nI (va_up g i v k9) := by
  funext j; by_cases e : j = i
  · subst e; rw [pk_us, q_ups]
  · rw [pk_un e, q_upn e]
theorem q_upf_lN {g : Nat → Nat} {i v : Nat} : vp_updL (fun k9 => lN (g k9)) i (lN v) = fun k9 => lN (va_up g i v k9) := by
  funext j; by_cases e : j = i
  · subst e; rw [pk_uLs, q_ups]
  · rw [pk_uLn e, q_upn e]
/-- a place, or -1 -/
def pin : Option Nat → Int32
  | none => -1
  | some i => nI i
theorem q_upf_pin {g : Nat → Option Nat} {i : Nat} {v : Option Nat} : upd (fun k9 => pin (g k9)) i (pin v) = fun k9 => pin (va_up g i v k9) := by
  funext j; by_cases e : j = i
  · subst e; rw [pk_us, q_ups]
  · rw [pk_un e, q_upn e]
theorem okd_13 {n : Nat} : okd 10 n = true ↔ wl n ≤ 10 ∧ okd 13 n = true := by
  have mono : ∀ (f g k : Nat), f ≤ g → okd f k = true → okd g k = true := by
    intro f
    induction f with
    | zero => intro g k _ h; rw [okd_0.mp h]; exact okd_z g
    | succ f ih =>
      intro g k hg h
      obtain ⟨g, rfl⟩ : ∃ q, g = q + 1 := ⟨g - 1, by omega⟩
      rcases Nat.eq_zero_or_pos k with h1 | h1
      · rw [h1]; exact okd_z _
      · have := (okd_s h1).mp h
        exact (okd_s h1).mpr ⟨this.1, ih g _ (by omega) this.2⟩
  have back : ∀ (f g k : Nat), wl k ≤ f → okd g k = true → okd f k = true := by
    intro f
    induction f with
    | zero => intro g k hw _; rw [wl_z (k := k) (by omega)]; exact okd_z 0
    | succ f ih =>
      intro g k hw h
      rcases Nat.eq_zero_or_pos k with h1 | h1
      · rw [h1]; exact okd_z _
      · cases g with
        | zero => rw [okd_0] at h; omega
        | succ g =>
          have h2 := (okd_s h1).mp h
          exact (okd_s h1).mpr ⟨h2.1, ih g _ (by have := wl_s h1; omega) h2.2⟩
  exact ⟨fun h => ⟨okd_wl h, mono 10 13 n (by omega) h⟩, fun h => back 10 13 n h.1 h.2⟩
theorem okd_13s {r : Nat} (h : 0 < r) (hr : r < 2 ^ 63) : okd 13 r = true ↔ (1 ≤ r % 32 ∧ r % 32 ≤ 26) ∧ okd 13 (r / 32) = true := by
  rw [okd_s h]
  have h2 : r / 32 < 32 ^ 12 := by have : (32 : Nat) ^ 12 = 2 ^ 60 := by decide
                                   omega
  have h3 : okd 12 (r / 32) = true ↔ okd 13 (r / 32) = true := by
    have : wl (r / 32) ≤ 12 := by
      rcases Nat.eq_zero_or_pos (r / 32) with h1 | h1
      · rw [h1, wl_0]; omega
      · have h4 := wl_ge h1
        by_cases h5 : wl (r / 32) ≤ 12
        · exact h5
        · have h6 : 32 ^ 12 ≤ 32 ^ (wl (r / 32) - 1) := Nat.pow_le_pow_right (by decide) (by omega)
          omega
    have gen : ∀ (f g k : Nat), wl k ≤ f → okd g k = true → okd f k = true := by
      intro f
      induction f with
      | zero => intro g k hw _; rw [wl_z (k := k) (by omega)]; exact okd_z 0
      | succ f ih =>
        intro g k hw h
        rcases Nat.eq_zero_or_pos k with h1 | h1
        · rw [h1]; exact okd_z _
        · cases g with
          | zero => rw [okd_0] at h; omega
          | succ g =>
            have h2 := (okd_s h1).mp h
            exact (okd_s h1).mpr ⟨h2.1, ih g _ (by have := wl_s h1; omega) h2.2⟩
    exact ⟨gen 13 12 _ (by omega), gen 12 13 _ this⟩
  rw [h3]
theorem gw_iff {n : Nat} : gw n ↔ (0 < n ∧ wl n ≤ 10) ∧ okd 13 n = true := by
  rw [show gw n = (0 < n ∧ okd 10 n = true) from rfl, okd_13]
  exact ⟨fun h => ⟨⟨h.1, h.2.1⟩, h.2.2⟩, fun h => ⟨h.1.1, h.1.2, h.2⟩⟩
/-- the first letters -/
def beg (n k : Nat) : Nat := n / 32 ^ (wl n - k)
theorem wl_13 {n : Nat} (h : n < 2 ^ 63) : wl n ≤ 13 := by
  rcases Nat.eq_zero_or_pos n with h1 | h1
  · rw [h1, wl_0]; omega
  · have h4 := wl_ge h1
    by_cases h5 : wl n ≤ 13
    · exact h5
    · have h6 : 32 ^ 13 ≤ 32 ^ (wl n - 1) := Nat.pow_le_pow_right (by decide) (by omega)
      have : (32 : Nat) ^ 13 = 2 ^ 65 := by decide
      omega
/-- the digit at a place from the left, while the word is taken apart from the right -/
theorem lay_dg {a i r : Nat} (hi : i < wl a) (hr : r = a / 32 ^ (wl a - (i + 1))) : r % 32 = ltz a i := by
  rw [ltz_in hi, hr]; unfold lt; rw [show wl a - (i + 1) = wl a - 1 - i by omega]
theorem lay_s {a i r : Nat} (hi : i < wl a) (hr : r = a / 32 ^ (wl a - (i + 1))) : r / 32 = a / 32 ^ (wl a - i) := by
  rw [hr, Nat.div_div_eq_div_mul, ← Nat.pow_succ]; congr 2; omega
/-- the last place below n that has it -/
theorem ffi_last {P : Nat → Bool} {i : Nat} (hu : ∀ j, j < i → P j = true → P i = true → False) : (if P i = true then some i else ffi P i) = ffi P (i + 1) := by
  show _ = (match ffi P i with | some i => some i | none => if P i then some i else none)
  cases e : ffi P i with
  | none => rfl
  | some x =>
    have h := ffi_some e
    by_cases hp : P i = true
    · exact (hu x h.1 h.2 hp).elim
    · rw [if_neg hp]
theorem pin_eq {o : Option Nat} {c : Nat} (h : ∀ i, o = some i → i < 2 ^ 31) (hc : c < 2 ^ 31) : pin o = nI c ↔ o = some c := by
  cases o with
  | none => exact ⟨fun h9 => absurd h9 (by
      intro h8
      have h7 : (pin none).toInt = (nI c).toInt := congrArg Int32.toInt h8
      rw [nI_toInt hc] at h7
      have : (pin none).toInt = -1 := by decide
      omega), fun h9 => nomatch h9⟩
  | some i => exact ⟨fun h9 => by rw [(nI_eq (h i rfl) hc).mp h9], fun h9 => by rw [h9]; rfl⟩
theorem pin_none {o : Option Nat} (h : ∀ i, o = some i → i < 2 ^ 31) : pin o = (-1) ↔ o = none := by
  cases o with
  | none => exact ⟨fun _ => rfl, fun _ => rfl⟩
  | some i => exact ⟨fun h9 => absurd h9 (by
      intro h8
      have h7 : (nI i).toInt = (-1 : Int32).toInt := congrArg Int32.toInt h8
      rw [nI_toInt (h i rfl)] at h7
      have : (-1 : Int32).toInt = -1 := by decide
      omega), fun h9 => nomatch h9⟩
/-- how many are known -/
def knn (ct : Nat → Nat) (n : Nat) : Nat := cnt (fun k => decide (0 < ct k)) n
/-- keys, by their letters, as the reference has them -/
def kyl : List Nat := [0, 10, 24, 22, 12, 2, 13, 14, 15, 7, 16, 17, 18, 26, 25, 8, 9, 0, 3, 11, 4, 6, 23, 1, 21, 5, 20]
def kyf (k : Nat) : Nat := kyl.getD k 0
theorem kyf_ok : ∀ k, k < 27 → 1 ≤ k → kyf k = 10 * kro.getD k 9 + kpl.getD k 9 := by decide
theorem kyf_lt : ∀ k, k < 27 → kyf k < 27 := by decide
section QV
variable {p : Program} {l : Launch} {e : Env} {R : Room} {s : State} {m : MethodId} {args : Array Value} {below : List Frame} {meth : Method} {c : Code} {H : Heap} {locs : List Loc} {cells slots : Nat} {Q : State → Prop} {cc : ByteArray} {pc : Nat} {ls : Array Slot} {rest : List Value}
theorem q_pin_eq (hexec : p.tables.exec = Jvm.exec) (hb : c.code = cc) {o : Option Nat} {off : Int} {tgt : Nat} (hdg : decode cc pc = .ok (.if_icmp .eq off, 3)) (ht : (pc : Int) + off = (tgt : Int)) (ho : ∀ i, o = some i → i < 2 ^ 31)
    (kt : o = none → W p l e R s m args below meth c H locs cells slots Q (F0 m tgt ls rest)) (kf : ∀ i, o = some i → W p l e R s m args below meth c H locs cells slots Q (F0 m (pc + 3) ls rest)) : W p l e R s m args below meth c H locs cells slots Q (F0 m pc ls (.int (-1) :: .int (pin o) :: rest)) :=
  lv_icmp_eq hexec hb hdg ht (fun h => kt ((pin_none ho).mp h)) (fun h => by
    cases e9 : o with
    | none => exact absurd ((pin_none ho).mpr e9) h
    | some i => exact kf i e9)
theorem q_pin_ne (hexec : p.tables.exec = Jvm.exec) (hb : c.code = cc) {o : Option Nat} {off : Int} {tgt : Nat} (hdg : decode cc pc = .ok (.if_icmp .ne off, 3)) (ht : (pc : Int) + off = (tgt : Int)) (ho : ∀ i, o = some i → i < 2 ^ 31)
    (kt : o = none → W p l e R s m args below meth c H locs cells slots Q (F0 m (pc + 3) ls rest)) (kf : ∀ i, o = some i → W p l e R s m args below meth c H locs cells slots Q (F0 m tgt ls rest)) : W p l e R s m args below meth c H locs cells slots Q (F0 m pc ls (.int (-1) :: .int (pin o) :: rest)) :=
  lv_icmp_ne hexec hb hdg ht (fun h => by
    cases e9 : o with
    | none => exact absurd ((pin_none ho).mpr e9) h
    | some i => exact kf i e9) (fun h => kt ((pin_none ho).mp h))
end QV
theorem q_opt {o : Option Nat} {P : Prop} (kn : o = none → P) (ks : ∀ i, o = some i → P) : P := by
  cases h : o with
  | none => exact kn h
  | some i => exact ks i h
theorem q_e1 : ∀ {a : Nat}, a < 27 → ∀ {b : Nat}, b < 27 → (nI a - nI b = nI 1 ↔ a = b + 1) := by decide
