/-! where a word is put into the tree -/
theorem i_nle {x y : Int32} (h : x < y) : ¬ y ≤ x := fun h2 => by
  rw [Int32.lt_iff_toInt_lt] at h
  rw [Int32.le_iff_toInt_le] at h2
  omega
theorem i_le {x y : Int32} (h : ¬ x < y) : y ≤ x := by
  rw [Int32.lt_iff_toInt_lt] at h
  rw [Int32.le_iff_toInt_le]
  omega
theorem q_upf_pinN {g : Nat → Option Nat} {i : Nat} : upd (fun k9 => pin (g k9)) i (-1) = fun k9 => pin (va_up g i none k9) := q_upf_pin (v := none)
theorem q_upf_pinS {g : Nat → Option Nat} {i v : Nat} : upd (fun k9 => pin (g k9)) i (nI v) = fun k9 => pin (va_up g i (some v) k9) := q_upf_pin (v := some v)
/-- the child with the number of the distance -/
def chf (wd : Nat → Nat) (pa : Nat → Option Nat) (nm : Nat → Nat) (a n q : Nat) : Option Nat := ffi (fun k => decide (pa k = some q ∧ nm k = dst wd a q)) n
def plw (C : Nat → Option Nat) : Nat → Nat → Nat
  | 0, q => q
  | f + 1, q => match C q with
    | none => q
    | some c => plw C f c
theorem plw_none {C : Nat → Option Nat} {q : Nat} (h : C q = none) : ∀ f, plw C f q = q := by
  intro f
  cases f with
  | zero => rfl
  | succ f => show (match C q with | none => q | some c => plw C f c) = q; rw [h]
theorem plw_some {C : Nat → Option Nat} {q c : Nat} (h : C q = some c) (f : Nat) : plw C (f + 1) q = plw C f c := by
  show (match C q with | none => q | some c => plw C f c) = _; rw [h]
theorem plw_st {C : Nat → Option Nat} {n : Nat} (hC : ∀ q c, C q = some c → q < c ∧ c < n) : ∀ f g q, q < n → n ≤ f + q → n ≤ g + q → plw C f q = plw C g q := by
  intro f
  induction f with
  | zero => intro g q h1 h2; omega
  | succ f ih =>
    intro g q h1 h2 h3
    cases g with
    | zero => omega
    | succ g =>
      cases e : C q with
      | none => rw [plw_none e, plw_none e]
      | some c =>
        have := hC _ _ e
        rw [plw_some e, plw_some e]
        exact ih g c this.2 (by omega) (by omega)
theorem plw_go {C : Nat → Option Nat} {n : Nat} (hC : ∀ q c, C q = some c → q < c ∧ c < n) {q c : Nat} (h : C q = some c) : plw C n c = plw C n q := by
  have h1 := hC _ _ h
  rw [← plw_some h n]
  exact plw_st hC _ _ q (by omega) (by omega) (by omega)
theorem chf_lt {wd : Nat → Nat} {pa : Nat → Option Nat} {nm : Nat → Nat} {a n : Nat} (hpn : ∀ k i, k < n → pa k = some i → i < k) : ∀ q c, chf wd pa nm a n q = some c → q < c ∧ c < n := by
  intro q c h
  have h1 := ffi_some h
  have h2 := of_decide_eq_true h1.2
  exact ⟨hpn c q h1.1 h2.1, h1.1⟩
def plm (n : Nat) : Option Nat → Nat
  | none => 0
  | some q => n - q
theorem plm_dec {C : Nat → Option Nat} {n : Nat} (hC : ∀ q c, C q = some c → q < c ∧ c < n) {q : Nat} (h : q < n) : plm n (C q) < plm n (some q) := by
  cases e : C q with
  | none => show 0 < n - q; omega
  | some c => have := hC _ _ e; show n - c < n - q; omega
theorem plw_lt {C : Nat → Option Nat} {n : Nat} (hC : ∀ q c, C q = some c → q < c ∧ c < n) : ∀ f q, q < n → plw C f q < n := by
  intro f
  induction f with
  | zero => intro q h; exact h
  | succ f ih =>
    intro q h
    cases e : C q with
    | none => rw [plw_none e]; exact h
    | some c => rw [plw_some e]; exact ih c (hC _ _ e).2
theorem dst_20 {wd : Nat → Nat} {a q : Nat} (ha : wl a ≤ 10) (hq : wl (wd q) ≤ 10) : dst wd a q ≤ 20 := by
  have := lev_le (ltz a) (ltz (wd q)) (wl a) (wl (wd q))
  unfold dst; omega
