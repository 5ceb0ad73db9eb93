/-! answers, in whole numbers -/
def kz (x : Int32) : Nat := x.toInt.toNat
theorem kz_of {x : Int32} (h : 0 ≤ x) : x = nI (kz x) := by
  rw [Int32.le_iff_toInt_le] at h
  have h0 : (0 : Int32).toInt = 0 := rfl
  rw [h0] at h
  have h2 := Int32.toInt_lt x
  apply Int32.toInt_inj.mp
  unfold kz
  rw [nI_toInt (by omega)]; omega
theorem kz_31 (x : Int32) : kz x < 2 ^ 31 := by have h2 := Int32.toInt_lt x; unfold kz; omega
theorem kz_le {x : Int32} {m : Nat} (hm : m < 2 ^ 31) (h0 : 0 ≤ x) (h : x ≤ nI m) : kz x ≤ m := by
  rw [kz_of h0] at h; exact (nI_leI (kz_31 x) hm).mp h
theorem kz_ge {x : Int32} {m : Nat} (hm : m < 2 ^ 31) (h : nI m ≤ x) : 0 ≤ x ∧ m ≤ kz x := by
  have h0 : 0 ≤ x := by
    rw [Int32.le_iff_toInt_le, nI_toInt hm] at h
    rw [Int32.le_iff_toInt_le]; have h0 : (0 : Int32).toInt = 0 := rfl; omega
  refine ⟨h0, ?_⟩
  rw [kz_of h0] at h; exact (nI_leI hm (kz_31 x)).mp h
/-- a known word that is at most k letters away -/
abbrev cor (wd ct : Nat → Nat) (a k i : Nat) : Prop := 0 < ct i ∧ lev (ltz a) (ltz (wd i)) (wl a) (wl (wd i)) ≤ k
def ccn (wd ct : Nat → Nat) (a k n : Nat) : Nat := cnt (fun i => decide (cor wd ct a k i)) n
def pzf (wd : Nat → Nat) (a i : Nat) : Nat := pr (ltz a) (ltz (wd i)) (wl a) (wl (wd i))
/-- the word at the last place that has it; 0 for none -/
def lwd (P : Nat → Bool) (wd : Nat → Nat) : Nat → Nat
  | 0 => 0
  | n + 1 => if P n then wd n else lwd P wd n
def cof (o : Option Nat) (ct : Nat → Nat) : Nat := match o with
  | none => 0
  | some i => ct i
def nrs (wd ct : Nat → Nat) (a : Nat) : Nat → Option Nat
  | 0 => none
  | i + 1 => if 0 < ct i ∧ ∀ d, nrs wd ct a i = some d → lev (ltz a) (ltz (wd i)) (wl a) (wl (wd i)) < d then some (lev (ltz a) (ltz (wd i)) (wl a) (wl (wd i))) else nrs wd ct a i
