/-! words as numbers, five bits a letter -/
def okd : Nat → Nat → Bool
  | 0, k => k == 0
  | f + 1, k => k == 0 || (decide (1 ≤ k % 32) && decide (k % 32 ≤ 26) && okd f (k / 32))
abbrev gw (k : Nat) : Prop := 0 < k ∧ okd 10 k = true
def wl (k : Nat) : Nat := if h : k = 0 then 0 else wl (k / 32) + 1
termination_by k
decreasing_by omega
theorem wl_0 : wl 0 = 0 := by rw [wl]; rfl
theorem wl_s {k : Nat} (h : 0 < k) : wl k = wl (k / 32) + 1 := by rw [wl, dif_neg (by omega)]
theorem wl_pos {k : Nat} (h : 0 < k) : 1 ≤ wl k := by rw [wl_s h]; omega
theorem wl_z {k : Nat} (h : wl k = 0) : k = 0 := by
  rcases Nat.eq_zero_or_pos k with h1 | h1
  · exact h1
  · have := wl_pos h1; omega
theorem okd_z (f : Nat) : okd f 0 = true := by cases f <;> rfl
theorem okd_s {f k : Nat} (h : 0 < k) : okd (f + 1) k = true ↔ (1 ≤ k % 32 ∧ k % 32 ≤ 26) ∧ okd f (k / 32) = true := by
  have : (k == 0) = false := by simp; omega
  simp [okd, this]
theorem okd_0 {k : Nat} : okd 0 k = true ↔ k = 0 := by simp [okd]
theorem okd_lt : ∀ {f k : Nat}, okd f k = true → k < 32 ^ f := by
  intro f
  induction f with
  | zero => intro k h; rw [okd_0.mp h]; decide
  | succ f ih =>
    intro k h
    rcases Nat.eq_zero_or_pos k with h1 | h1
    · rw [h1]; exact Nat.pow_pos (by decide)
    · have := ih ((okd_s h1).mp h).2
      rw [Nat.pow_succ]; omega
theorem okd_wl : ∀ {f k : Nat}, okd f k = true → wl k ≤ f := by
  intro f
  induction f with
  | zero => intro k h; rw [okd_0.mp h, wl_0]; exact Nat.le_refl 0
  | succ f ih =>
    intro k h
    rcases Nat.eq_zero_or_pos k with h1 | h1
    · rw [h1, wl_0]; omega
    · rw [wl_s h1]; have := ih ((okd_s h1).mp h).2; omega
theorem div_pow_s (k i : Nat) : k / 32 / 32 ^ i = k / 32 ^ (i + 1) := by rw [Nat.div_div_eq_div_mul, Nat.pow_succ, Nat.mul_comm]
theorem okd_dg : ∀ {f k i : Nat}, okd f k = true → i < wl k → 1 ≤ k / 32 ^ i % 32 ∧ k / 32 ^ i % 32 ≤ 26 := by
  intro f
  induction f with
  | zero => intro k i h hi; rw [okd_0.mp h, wl_0] at hi; omega
  | succ f ih =>
    intro k i h hi
    rcases Nat.eq_zero_or_pos k with h1 | h1
    · rw [h1, wl_0] at hi; omega
    · have hs := (okd_s h1).mp h
      cases i with
      | zero => simpa using hs.1
      | succ i =>
        rw [wl_s h1] at hi
        have := ih (i := i) hs.2 (by omega)
        rwa [div_pow_s] at this
theorem wl_lt (k : Nat) : k < 32 ^ wl k := by
  induction k using Nat.strongRecOn with
  | ind k ih =>
    rcases Nat.eq_zero_or_pos k with h | h
    · rw [h, wl_0]; decide
    · rw [wl_s h, Nat.pow_succ]; have := ih (k / 32) (by omega); omega
theorem wl_ge {k : Nat} (h : 0 < k) : 32 ^ (wl k - 1) ≤ k := by
  induction k using Nat.strongRecOn with
  | ind k ih =>
    rw [wl_s h]
    rcases Nat.eq_zero_or_pos (k / 32) with h1 | h1
    · rw [h1, wl_0]; simpa using Nat.succ_le_of_lt h
    · have := ih (k / 32) (by omega) h1
      have h2 := wl_pos h1
      rw [show wl (k / 32) + 1 - 1 = (wl (k / 32) - 1) + 1 by omega, Nat.pow_succ]; omega
theorem gw_wl {k : Nat} (h : gw k) : wl k ≤ 10 := okd_wl h.2
theorem gw_lt {k : Nat} (h : gw k) : k < 2 ^ 50 := by have := okd_lt h.2; simpa using this
theorem gw_pos {k : Nat} (h : gw k) : 1 ≤ wl k := wl_pos h.1
/-- the letter at a place from the left -/
def lt (k p : Nat) : Nat := k / 32 ^ (wl k - 1 - p) % 32
/-- .. 0 behind the last one -/
def ltz (k p : Nat) : Nat := if p < wl k then lt k p else 0
theorem lt_in {k p : Nat} (h : gw k) (hp : p < wl k) : 1 ≤ lt k p ∧ lt k p ≤ 26 := okd_dg h.2 (by omega)
theorem lt_32 (k p : Nat) : lt k p < 32 := Nat.mod_lt _ (by decide)
theorem ltz_in {k p : Nat} (hp : p < wl k) : ltz k p = lt k p := if_pos hp
theorem ltz_out {k p : Nat} (hp : wl k ≤ p) : ltz k p = 0 := if_neg (by omega)
theorem ltz_32 (k p : Nat) : ltz k p < 32 := by unfold ltz; split; exact lt_32 _ _; decide
/-- orders like the words -/
def al (k : Nat) : Nat := k * 32 ^ (10 - wl k)
theorem al_lt {k : Nat} (h : wl k ≤ 10) : al k < 2 ^ 50 := by
  unfold al
  have h1 := wl_lt k
  have h2 : 32 ^ wl k * 32 ^ (10 - wl k) = 32 ^ 10 := by rw [← Nat.pow_add]; congr 1; omega
  have h3 : k * 32 ^ (10 - wl k) < 32 ^ wl k * 32 ^ (10 - wl k) := Nat.mul_lt_mul_of_pos_right h1 (Nat.pow_pos (by decide))
  rw [h2] at h3
  simpa using h3
/-- without the letter at a place from the right -/
def wo (n p : Nat) : Nat := n / 32 ^ (p + 1) * 32 ^ p + n % 32 ^ p
theorem p32 (e : Nat) : 2 ^ (5 * e) = 32 ^ e := by rw [Nat.pow_mul]
theorem wo_lt {n p : Nat} : wo n p ≤ n := by
  unfold wo
  have h := Nat.div_add_mod n (32 ^ p)
  have h2 : n / 32 ^ (p + 1) * 32 ^ p ≤ n / 32 ^ p * 32 ^ p := Nat.mul_le_mul_right _ (Nat.div_le_div_left (Nat.pow_le_pow_right (by decide) (by omega)) (Nat.pow_pos (by decide)))
  rw [Nat.mul_comm (32 ^ p)] at h
  omega
theorem q_shr5 {n e k : Nat} (hn : n < 2 ^ 64) (hk : k < 64) (he : k = 5 * e) : ((lN n).toUInt64 >>> ((nI k).toInt64.toUInt64 &&& Int64.toUInt64 63)).toInt64 = lN (n / 32 ^ e) := by
  rw [wb_shr hn hk, he, p32]
theorem q_shl5 {n e k : Nat} (hk : k < 64) (he : k = 5 * e) : lN n <<< ((nI k).toInt64 &&& 63) = lN (n * 32 ^ e) := by
  rw [wb_shl n hk, he, p32]
theorem q_m31 {a : Nat} (ha : a < 2 ^ 64) : lN a &&& lN 31 = lN (a % 32) := wb_mask (k := 5) ha (by decide)
theorem q_or5 {a b e : Nat} (hb : b < 32 ^ e) (h : a * 32 ^ e + b < 2 ^ 64) : lN (a * 32 ^ e) ||| lN b = lN (a * 32 ^ e + b) := by
  rw [wb_or (by omega) (by omega)]
  congr 1
  rw [← p32] at hb ⊢
  have := Nat.shiftLeft_add_eq_or_of_lt hb a
  rw [Nat.shiftLeft_eq] at this
  exact this.symm
theorem q_and5 {n e : Nat} (hn : n < 2 ^ 64) (he : e < 12) : lN n &&& lN (32 ^ e - 1) = lN (n % 32 ^ e) := by
  rw [← p32]; exact wb_mask hn (by omega)
theorem lN_ti2 {m : Nat} (h : m < 2 ^ 64) : (lN m).toInt = if m < 2 ^ 63 then (m : Int) else (m : Int) - 2 ^ 64 := by
  have e1 : (lN m).toBitVec.toNat = m := wb_tn h
  show (lN m).toBitVec.toInt = _
  rw [BitVec.toInt_eq_toNat_cond, e1]
  split <;> split <;> omega
theorem lz_pos {n : Nat} (h : n < 2 ^ 64) : 0 < lN n ↔ 0 < n ∧ n < 2 ^ 63 := by
  rw [Int64.lt_iff_toInt_lt, lN_ti2 h]
  show (0 : Int) < _ ↔ _
  split <;> omega
section QU
variable {p : Program} {l : Launch} {e : Env} {R : Room} {s : State} {m : MethodId} {args : Array Value} {below : List Frame} {meth : Method} {c : Code} {H : Heap} {locs : List Loc} {cells slots : Nat} {Q : State → Prop} {cc : ByteArray} {pc : Nat} {ls : Array Slot} {rest : List Value}
theorem q_lz_le (hexec : p.tables.exec = Jvm.exec) (hb : c.code = cc) {a : Nat} {off : Int} {tgt : Nat} (hdg : decode cc pc = .ok (.ifCond .le off, 3)) (ht : (pc : Int) + off = (tgt : Int)) (ha : a < 2 ^ 64) (kt : a = 0 ∨ 2 ^ 63 ≤ a → W p l e R s m args below meth c H locs cells slots Q (F0 m tgt ls rest)) (kf : 0 < a ∧ a < 2 ^ 63 → W p l e R s m args below meth c H locs cells slots Q (F0 m (pc + 3) ls rest)) : W p l e R s m args below meth c H locs cells slots Q (F0 m pc ls (.int (lg_cmp (lN a) (lN 0)) :: rest)) :=
  lv_if_le hexec hb hdg ht (fun h => kt (by
    have h1 : ¬ (0 < a ∧ a < 2 ^ 63) := fun h2 => by
      have h3 := (lz_pos ha).mpr h2
      have h4 := (lg_cmp_le (lN a) (lN 0)).mp h
      have h5 : lN 0 = 0 := rfl
      rw [h5] at h4
      rw [Int64.lt_iff_toInt_lt] at h3
      rw [Int64.le_iff_toInt_le] at h4
      omega
    omega)) (fun h => kf ((lz_pos ha).mp (by
    have h4 : ¬ lN a ≤ lN 0 := fun h2 => h ((lg_cmp_le (lN a) (lN 0)).mpr h2)
    have h5 : lN 0 = 0 := rfl
    rw [h5, Int64.le_iff_toInt_le] at h4
    rw [Int64.lt_iff_toInt_lt]
    omega)))
end QU
theorem q_lsub1 {a : Nat} (h : 0 < a) : lN a - lN 1 = lN (a - 1) := lN_sub (by omega)
