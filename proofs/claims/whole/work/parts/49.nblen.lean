/-! how long a neighbourhood is -/
theorem q_ins_self {L : List Nat} {v : Nat} (h : v ∈ L) : ins L v = L := if_pos h
theorem q_ins_mem {L : List Nat} {v x : Nat} (h : x ∈ L) : x ∈ ins L v := by
  unfold ins; split
  · exact h
  · exact List.mem_append.mpr (Or.inl h)
theorem q_ins_new (L : List Nat) (v : Nat) : v ∈ ins L v := by
  unfold ins; split
  · assumption
  · exact List.mem_append.mpr (Or.inr (List.mem_singleton.mpr rfl))
theorem q_lsd_mem {n p : Nat} {L : List Nat} {x : Nat} (h : x ∈ L) : ∀ s, x ∈ lsd n p L s := by
  intro s
  induction s with
  | zero => exact h
  | succ s ih => exact q_ins_mem ih
theorem q_lsd_new {n p : Nat} {L : List Nat} : ∀ s t, t < s → wof n p (p + t) (wl n) ∈ lsd n p L s := by
  intro s
  induction s with
  | zero => intro t h; omega
  | succ s ih =>
    intro t h
    by_cases e : t = s
    · rw [e]; exact q_ins_new _ _
    · exact q_ins_mem (ih t (by omega))
theorem q_wof_pp (n p : Nat) : ∀ t, wof n p p t = wof n 0 p t := by
  intro t
  induction t with
  | zero => rfl
  | succ t ih =>
    unfold wof
    rw [ih]
    by_cases h : t + 1 = p
    · rw [if_pos (Or.inl h), if_pos (Or.inr h)]
    · rw [if_neg (fun h9 => by omega), if_neg (fun h9 => by omega)]
theorem q_lpl_mem {k n x p : Nat} (h : x ∈ lpl k n p) : ∀ d, x ∈ lpl k n (p + d) := by
  intro d
  induction d with
  | zero => exact h
  | succ d ih => exact q_lsd_mem ih _
theorem q_lpl_0 {k n q : Nat} (hk : 1 < k) (hq : q ≤ wl n) : ∀ p, wof n 0 q (wl n) ∈ lpl k n (p + 1) := by
  intro p
  have h1 : wof n 0 q (wl n) ∈ lpl k n 1 := by
    have := q_lsd_new (n := n) (p := 0) (L := []) (scn k n 0) q (by unfold scn; rw [if_pos hk]; omega)
    rw [Nat.zero_add] at this
    exact this
  rw [Nat.add_comm p 1]
  exact q_lpl_mem h1 p
theorem q_lsd_len1 {n p : Nat} {L : List Nat} (h : wof n p p (wl n) ∈ L) : ∀ s, List.length (lsd n p L (s + 1)) ≤ List.length L + s := by
  intro s
  induction s with
  | zero => exact Nat.le_of_eq (congrArg List.length (q_ins_self h))
  | succ s ih => exact Nat.le_trans (ins_len _ _) (by omega)
theorem q_lpl_row {k n p : Nat} (hk : 1 < k) (hp : p + 1 ≤ wl n) : List.length (lpl k n (p + 2)) ≤ List.length (lpl k n (p + 1)) + (wl n - (p + 1)) := by
  have hm : wof n (p + 1) (p + 1) (wl n) ∈ lpl k n (p + 1) := by
    rw [q_wof_pp]; exact q_lpl_0 hk hp p
  have := q_lsd_len1 hm (wl n - (p + 1))
  have e : scn k n (p + 1) = wl n - (p + 1) + 1 := by unfold scn; rw [if_pos hk]; omega
  show List.length (lsd n (p + 1) (lpl k n (p + 1)) (scn k n (p + 1))) ≤ _
  rw [e]; exact this
theorem q_lpl_1 {k n : Nat} (hk : 1 < k) : List.length (lpl k n 1) ≤ wl n + 1 := by
  have := lsd_len n 0 [] (scn k n 0)
  have e : scn k n 0 = wl n + 1 := by unfold scn; rw [if_pos hk]; omega
  rw [e] at this
  show List.length (lsd n 0 [] (scn k n 0)) ≤ _
  rw [e]
  exact Nat.le_trans this (by show 0 + _ ≤ _; omega)
def q_tri (w : Nat) : Nat → Nat
  | 0 => w + 1
  | p + 1 => q_tri w p + (w - (p + 1))
theorem q_tri_56 : ∀ w, w < 11 → ∀ p, p < 11 → q_tri w p ≤ 56 := by decide
theorem q_lpl_tri {k n : Nat} (hk : 1 < k) : ∀ p, p ≤ wl n → List.length (lpl k n (p + 1)) ≤ q_tri (wl n) p := by
  intro p
  induction p with
  | zero => intro _; exact q_lpl_1 hk
  | succ p ih =>
    intro h
    have h1 := q_lpl_row (k := k) (n := n) hk h
    have h2 := ih (by omega)
    show List.length (lpl k n (p + 2)) ≤ q_tri (wl n) p + (wl n - (p + 1))
    omega
theorem q_lpl_k1 {k n : Nat} (hk : ¬ 1 < k) : ∀ p, List.length (lpl k n p) ≤ p := by
  intro p
  induction p with
  | zero => exact Nat.le_refl _
  | succ p ih =>
    have := lsd_len n p (lpl k n p) (scn k n p)
    have e : scn k n p = 1 := if_neg hk
    show List.length (lsd n p (lpl k n p) (scn k n p)) ≤ _
    rw [e] at this ⊢
    omega
theorem q_lpl_56 {k n : Nat} (hw : wl n ≤ 10) {p : Nat} (hp : p ≤ wl n + 1) : List.length (lpl k n p) ≤ 56 := by
  by_cases hk : 1 < k
  · cases p with
    | zero => exact Nat.zero_le _
    | succ p => exact Nat.le_trans (q_lpl_tri hk p (by omega)) (q_tri_56 _ (by omega) _ (by omega))
  · exact Nat.le_trans (q_lpl_k1 hk p) (by omega)
theorem q_ins_ge (L : List Nat) (v : Nat) : List.length L ≤ List.length (ins L v) := by
  unfold ins; split
  · exact Nat.le_refl _
  · rw [List.length_append]; exact Nat.le_add_right _ _
theorem q_lsd_ge {n p : Nat} {L : List Nat} {s : Nat} : ∀ d, List.length (lsd n p L s) ≤ List.length (lsd n p L (s + d)) := by
  intro d
  induction d with
  | zero => exact Nat.le_refl _
  | succ d ih => exact Nat.le_trans ih (q_ins_ge _ _)
theorem q_lsd_56 {k n p s : Nat} (hw : wl n ≤ 10) (hp : p ≤ wl n) (hs : s ≤ scn k n p) : List.length (lsd n p (lpl k n p) s) ≤ 56 := by
  have h1 := q_lsd_ge (n := n) (p := p) (L := lpl k n p) (s := s) (scn k n p - s)
  rw [show s + (scn k n p - s) = scn k n p by omega] at h1
  exact Nat.le_trans h1 (q_lpl_56 hw (p := p + 1) (by omega))
