/-! the search by the automaton, word by word -/
def vis (k t : Nat) (L : Nat → Nat) (S : List Nat) : List Nat := if rmin L (wl t) ≤ k then ins S (pck L (k + 1) (wl t + 1)) else S
def vcn (k t : Nat) (L : Nat → Nat) : Nat := if rmin L (wl t) ≤ k then 1 else 0
def ral (k t w p : Nat) (S : List Nat) : Nat → List Nat
  | 0 => S
  | c + 1 => vis k t (lev (ltz w) (ltz t) (p + c + 1)) (ral k t w p S c)
def rac (k t w p : Nat) : Nat → Nat
  | 0 => 0
  | c + 1 => rac k t w p c + vcn k t (lev (ltz w) (ltz t) (p + c + 1))
def rel (k t : Nat) (wd ki : Nat → Nat) : Nat → List Nat
  | 0 => vis k t (fun j => j) []
  | i + 1 => ral k t (wd (ki i)) (lpa wd ki i) (rel k t wd ki i) (wl (wd (ki i)) - lpa wd ki i)
def ren (k t : Nat) (wd ki : Nat → Nat) : Nat → Nat
  | 0 => vcn k t (fun j => j)
  | i + 1 => ren k t wd ki i + rac k t (wd (ki i)) (lpa wd ki i) (wl (wd (ki i)) - lpa wd ki i)
def lsb (S : List Nat) : Prop := ∀ j, j < List.length S → List.getD S j 0 < 2 ^ 40
theorem vis_len (k t : Nat) (L : Nat → Nat) (S : List Nat) : List.length (vis k t L S) ≤ List.length S + 1 := by
  unfold vis; split
  · exact ins_len _ _
  · omega
theorem pck_40 {t k : Nat} (ht : wl t ≤ 10) (hk : k ≤ 3) (L : Nat → Nat) : pck L (k + 1) (wl t + 1) < 2 ^ 40 := by
  have h1 := pck_lt L (c := k + 1) (by omega) (wl t + 1)
  have h2 : 8 ^ (wl t + 1) ≤ 8 ^ 11 := Nat.pow_le_pow_right (by decide) (by omega)
  omega
theorem vis_bnd {k t : Nat} (ht : wl t ≤ 10) (hk : k ≤ 3) (L : Nat → Nat) {S : List Nat} (h : lsb S) : lsb (vis k t L S) := by
  unfold vis; split
  · exact ins_bnd h (pck_40 ht hk L)
  · exact h
theorem ral_len (k t w p : Nat) (S : List Nat) : ∀ c, List.length (ral k t w p S c) ≤ List.length S + c := by
  intro c
  induction c with
  | zero => exact Nat.le_refl _
  | succ c ih => have := vis_len k t (lev (ltz w) (ltz t) (p + c + 1)) (ral k t w p S c); show List.length (vis _ _ _ _) ≤ _; omega
theorem ral_bnd {k t : Nat} (ht : wl t ≤ 10) (hk : k ≤ 3) (w p : Nat) {S : List Nat} (h : lsb S) : ∀ c, lsb (ral k t w p S c) := by
  intro c
  induction c with
  | zero => exact h
  | succ c ih => exact vis_bnd ht hk _ ih
theorem rel_len {k t : Nat} {wd ki : Nat → Nat} : ∀ {m : Nat}, (∀ j, j < m → wl (wd (ki j)) ≤ 10) → List.length (rel k t wd ki m) ≤ 1 + 10 * m := by
  intro m
  induction m with
  | zero => intro _; exact vis_len k t (fun j => j) []
  | succ m ih => intro h; have h1 := ral_len k t (wd (ki m)) (lpa wd ki m) (rel k t wd ki m) (wl (wd (ki m)) - lpa wd ki m); have h2 := ih (fun j hj => h j (by omega)); have h3 := h m (by omega); show List.length (ral _ _ _ _ _ _) ≤ _; omega
theorem rel_bnd {k t : Nat} (ht : wl t ≤ 10) (hk : k ≤ 3) (wd ki : Nat → Nat) : ∀ m, lsb (rel k t wd ki m) := by
  intro m
  induction m with
  | zero => exact vis_bnd ht hk _ (fun j hj => absurd hj (Nat.not_lt_zero _))
  | succ m ih => exact ral_bnd ht hk _ _ ih _
theorem shr_le2 {a b : Nat} (ha : gw a) : ∀ f k, k ≤ wl a → k ≤ wl b → shr a b f k ≤ wl b := by
  intro f
  induction f with
  | zero => intro k _ h; exact h
  | succ f ih =>
    intro k h1 h2
    unfold shr; split
    · rename_i h3
      refine ih (k + 1) (by omega) ?_
      by_cases e : k < wl b
      · omega
      · rw [ltz_in h3.1, ltz_out (by omega)] at h3
        have := lt_in ha h3.1
        omega
    · exact h2
/-- the rows of a word's beginning that the word before has too -/
theorem lpa_rows {wd ki : Nat → Nat} {i t : Nat} (hi : 0 < i) {d j : Nat} (hd : d ≤ lpa wd ki i) : lev (ltz (wd (ki (i - 1)))) (ltz t) d j = lev (ltz (wd (ki i))) (ltz t) d j := by
  refine lev_congr (fun q hq => ?_) (fun _ _ => rfl)
  have e : lpa wd ki i = shr (wd (ki i)) (wd (ki (i - 1))) 10 0 := if_neg (by omega)
  exact (shr_eq _ _ 10 0 (fun j hj => by omega) q (by omega)).symm
theorem lpa_le2 {wd ki : Nat → Nat} {i : Nat} (hi : 0 < i) (hg : gw (wd (ki i))) : lpa wd ki i ≤ wl (wd (ki (i - 1))) := by
  have e : lpa wd ki i = shr (wd (ki i)) (wd (ki (i - 1))) 10 0 := if_neg (by omega)
  rw [e]; exact shr_le2 hg 10 0 (by omega) (by omega)
