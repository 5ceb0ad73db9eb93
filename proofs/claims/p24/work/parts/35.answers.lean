/-! answers, in whole numbers -/
def kz (x : Int32) : Nat := x.toInt.toNat
theorem kz_of {x : Int32} (h : 0 ≤ x) : x = nI (kz x) := by
  rw [Int32.le_iff_toInt_le] at h
  have h0 : (0 : Int32).toInt = 0 := rfl
  rw [h0] at h
  have h2 := Int32.toInt_lt x
  apply Int32.toInt_inj.mp
  unfold kz
  rw [nI_toInt (by omega)]; omega
theorem kz_31 (x : Int32) : kz x < 2 ^ 31 := by have h2 := Int32.toInt_lt x; unfold kz; omega
theorem kz_le {x : Int32} {m : Nat} (hm : m < 2 ^ 31) (h0 : 0 ≤ x) (h : x ≤ nI m) : kz x ≤ m := by
  rw [kz_of h0] at h; exact (nI_leI (kz_31 x) hm).mp h
theorem kz_ge {x : Int32} {m : Nat} (hm : m < 2 ^ 31) (h : nI m ≤ x) : 0 ≤ x ∧ m ≤ kz x := by
  have h0 : 0 ≤ x := by
    rw [Int32.le_iff_toInt_le, nI_toInt hm] at h
    rw [Int32.le_iff_toInt_le]; have h0 : (0 : Int32).toInt = 0 := rfl; omega
  refine ⟨h0, ?_⟩
  rw [kz_of h0] at h; exact (nI_leI hm (kz_31 x)).mp h
/-- a known word that is at most k letters away -/
abbrev cor (wd ct : Nat → Nat) (a k i : Nat) : Prop := 0 < ct i ∧ lev (ltz a) (ltz (wd i)) (wl a) (wl (wd i)) ≤ k
def ccn (wd ct : Nat → Nat) (a k n : Nat) : Nat := cnt (fun i => decide (cor wd ct a k i)) n
def pzf (wd : Nat → Nat) (a i : Nat) : Nat := pr (ltz a) (ltz (wd i)) (wl a) (wl (wd i))
/-- the word at the last place that has it; 0 for none -/
def lwd (P : Nat → Bool) (wd : Nat → Nat) : Nat → Nat
  | 0 => 0
  | n + 1 => if P n then wd n else lwd P wd n
def cof (o : Option Nat) (ct : Nat → Nat) : Nat := match o with
  | none => 0
  | some i => ct i
def nrs (wd ct : Nat → Nat) (a : Nat) : Nat → Option Nat
  | 0 => none
  | i + 1 => if 0 < ct i ∧ ∀ d, nrs wd ct a i = some d → lev (ltz a) (ltz (wd i)) (wl a) (wl (wd i)) < d then some (lev (ltz a) (ltz (wd i)) (wl a) (wl (wd i))) else nrs wd ct a i
theorem nrs_lt {wd ct : Nat → Nat} {a : Nat} (ha : wl a ≤ 10) : ∀ {i : Nat}, (∀ k, k < i → wl (wd k) ≤ 10) → ∀ d, nrs wd ct a i = some d → d ≤ 20 := by
  intro i
  induction i with
  | zero => intro _ d h; exact nomatch h
  | succ i ih =>
    intro hw d h
    unfold nrs at h
    split at h
    · have := lev_le (ltz a) (ltz (wd i)) (wl a) (wl (wd i))
      have h2 := hw i (by omega)
      cases h; omega
    · exact ih (fun k hk => hw k (by omega)) d h
def dst (wd : Nat → Nat) (a q : Nat) : Nat := lev (ltz a) (ltz (wd q)) (wl a) (wl (wd q))
theorem q_gk {u v k : Nat} (hu : u < 2 ^ 29) (hv : v < 2 ^ 29) (hk : k < 2 ^ 29) : nI k < nI u - nI v ↔ v + k < u := by
  rw [Int32.lt_iff_toInt_lt, nI_toInt (by omega), pk_sub_toInt (by omega) (by omega)]; omega
theorem q_lk {u v k : Nat} (hu : u < 2 ^ 29) (hv : v < 2 ^ 29) (hk : k < 2 ^ 29) : nI u - nI v < -nI k ↔ u + k < v := by
  rw [show -nI k = nI 0 - nI k from (Int32.zero_sub _).symm, Int32.lt_iff_toInt_lt, pk_sub_toInt (by omega) (by omega), pk_sub_toInt (by omega) (by omega)]; omega
/-- a word's number, or -1 -/
def lnn (wd : Nat → Nat) : Option Nat → Int64
  | none => -1
  | some q => lN (wd q)
def dpv (dp : Nat → Nat) : Option Nat → Int32
  | none => -1
  | some c => nI (dp c)
theorem nI_nm1 {i : Nat} (h : i < 2 ^ 31) : ¬ nI i = (-1) := fun h8 => by
  have h7 : (nI i).toInt = (-1 : Int32).toInt := congrArg Int32.toInt h8
  rw [nI_toInt h] at h7
  have : (-1 : Int32).toInt = -1 := by decide
  omega
def dpm (dp : Nat → Nat) : Option Nat → Nat
  | none => 0
  | some c => dp c + 1
