/-! the reference's nodes and rows -/
abbrev fwd1 (wd ct : Nat → Nat) (i k : Nat) : Prop := (0 < ct i ∧ k ≤ wl (wd i)) ∧ ∀ j, j < i → ¬ (0 < ct j ∧ k ≤ wl (wd j) ∧ beg (wd j) k = beg (wd i) k)
theorem beg_lt {n k : Nat} : beg n k ≤ n := Nat.div_le_self _ _
def sm (f : Nat → Nat) : Nat → Nat
  | 0 => 0
  | n + 1 => sm f n + f n
def fwc (wd ct : Nat → Nat) (i q : Nat) : Nat := cnt (fun k => decide (fwd1 wd ct i (k + 1))) q
def pv : Nat → Option Nat
  | 0 => none
  | m + 1 => some m
theorem pv_dec {i : Nat} (h : i < 2 ^ 31) : nI i + Int32.ofInt (-1) = pin (pv i) := by
  have e : Int32.ofInt (-1) = (-1 : Int32) := by decide
  rw [e]
  cases i with
  | zero => rfl
  | succ i => exact pk_m1 i
/-- a row as one number, the first one lowest -/
def rnf (L : Nat → Nat) (c t : Nat) : Nat → Nat
  | 0 => 0
  | q + 1 => 8 * rnf L c t q + min (L (t - q)) c
theorem rnf_lt (L : Nat → Nat) {c : Nat} (h : c < 8) (t : Nat) : ∀ q, rnf L c t q < 8 ^ q := by
  intro q
  induction q with
  | zero => show (0 : Nat) < 1; omega
  | succ q ih => rw [Nat.pow_succ]; show 8 * rnf L c t q + min (L (t - q)) c < _; omega
theorem rmin_iff (L : Nat → Nat) (k : Nat) : ∀ t, rmin L t ≤ k ↔ ∃ j, j ≤ t ∧ L j ≤ k := by
  intro t
  induction t with
  | zero => exact ⟨fun h => ⟨0, Nat.le_refl _, h⟩, fun ⟨j, h1, h2⟩ => by rw [Nat.le_zero.mp h1] at h2; exact h2⟩
  | succ t ih =>
    show min (rmin L t) (L (t + 1)) ≤ k ↔ _
    constructor
    · intro h
      by_cases h2 : rmin L t ≤ k
      · obtain ⟨j, h3, h4⟩ := ih.mp h2; exact ⟨j, by omega, h4⟩
      · exact ⟨t + 1, Nat.le_refl _, by omega⟩
    · rintro ⟨j, h1, h2⟩
      by_cases e : j = t + 1
      · rw [e] at h2; omega
      · have := ih.mpr ⟨j, by omega, h2⟩; omega
def hrow (h a : Nat) : Nat → Nat := lev (ltz h) (ltz a) (wl h)
abbrev rch (a k h : Nat) : Prop := rmin (hrow h a) (wl a) ≤ k
def rown (a k h : Nat) : Nat := rnf (hrow h a) (k + 1) (wl a) (wl a + 1)
/-- .. -1 if it isn't reached -/
def rwo (a k h : Nat) : Int64 := if rch a k h then lN (rown a k h) else -1
theorem pv_s {m i : Nat} (h : pv m = some i) : m = i + 1 := by
  cases m with
  | zero => exact nomatch h
  | succ m => have : some m = some i := h
              cases this; rfl
theorem pv_n {m : Nat} (h : pv m = none) : m = 0 := by
  cases m with
  | zero => rfl
  | succ m => exact nomatch h
theorem rch_iff {a k h m b : Nat} (hm : m = 0) (hb : b = 1 ↔ ∃ j, m ≤ j ∧ j ≤ wl a ∧ hrow h a j ≤ k) : b = 1 ↔ rch a k h := by
  rw [hb, show rch a k h = (rmin (hrow h a) (wl a) ≤ k) from rfl, rmin_iff, hm]
  exact ⟨fun ⟨j, _, h2, h3⟩ => ⟨j, h2, h3⟩, fun ⟨j, h2, h3⟩ => ⟨j, Nat.zero_le _, h2, h3⟩⟩
