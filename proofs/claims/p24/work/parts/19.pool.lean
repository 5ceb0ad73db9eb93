/-! the entries and their words, in any number -/
abbrev Ecell (w : Nat) (p : Option Nat) (c d o : Nat) (ic lf pt : Int32) : va_E := .inr (0, [.ref w, va_rf p, .int (nI c), .int (nI d), .int (nI o), .int ic, .int lf, .int pt])
abbrev Wcell (n : Nat) : va_E := .inr (7, [.long (lN n), .int (nI (wl n)), .long (lN (al n))])
def EW (ea wa : Nat → Nat) (pf : Nat → Option Nat) (cn dp oc : Nat → Nat) (ic lf pt : Nat → Int32) (n : Nat) : va_W := (List.range n).map (fun k => (ea k, Ecell (wa k) (pf k) (cn k) (dp k) (oc k) (ic k) (lf k) (pt k)))
def WW (wa wd : Nat → Nat) (n : Nat) : va_W := (List.range n).map (fun k => (wa k, Wcell (wd k)))
def rg (f : Nat → Nat) (n : Nat) : List Nat := (List.range n).map f
theorem EW_fst {ea wa : Nat → Nat} {pf : Nat → Option Nat} {cn dp oc : Nat → Nat} {ic lf pt : Nat → Int32} {n : Nat} : (EW ea wa pf cn dp oc ic lf pt n).map (·.1) = rg ea n := by rw [EW, List.map_map]; rfl
theorem WW_fst {wa wd : Nat → Nat} {n : Nat} : (WW wa wd n).map (·.1) = rg wa n := by rw [WW, List.map_map]; rfl
theorem EW_mem {ea wa : Nat → Nat} {pf : Nat → Option Nat} {cn dp oc : Nat → Nat} {ic lf pt : Nat → Int32} {n k : Nat} (h : k < n) : (ea k, Ecell (wa k) (pf k) (cn k) (dp k) (oc k) (ic k) (lf k) (pt k)) ∈ EW ea wa pf cn dp oc ic lf pt n := List.mem_map.mpr ⟨k, List.mem_range.mpr h, rfl⟩
theorem WW_mem {wa wd : Nat → Nat} {n k : Nat} (h : k < n) : (wa k, Wcell (wd k)) ∈ WW wa wd n := List.mem_map.mpr ⟨k, List.mem_range.mpr h, rfl⟩
theorem q_one {D : va_G} {cl : List vw_C} {ws : va_W} {H : Heap} {q : Nat × va_E} (h : va_P D cl ws H) (hq : q ∈ ws) : va_P D cl [q] H := q_Pof (fun x hx => by rw [List.mem_singleton.mp hx]; exact q_atmem h hq)
theorem q_right {D : va_G} {cl : List vw_C} {X Y : va_W} {H : Heap} (h : va_P D cl (X ++ Y) H) : va_P D cl Y H := q_Pof (fun x hx => q_atmem h (List.mem_append_right _ hx))
theorem q_left {D : va_G} {cl : List vw_C} {X Y : va_W} {H : Heap} (h : va_P D cl (X ++ Y) H) : va_P D cl X H := q_Pof (fun x hx => q_atmem h (List.mem_append_left _ hx))
theorem E_at {D : va_G} {cl : List vw_C} {X Y : va_W} {H : Heap} {ea wa : Nat → Nat} {pf : Nat → Option Nat} {cn dp oc : Nat → Nat} {ic lf pt : Nat → Int32} {n : Nat} (h : va_P D cl (X ++ (EW ea wa pf cn dp oc ic lf pt n ++ Y)) H) (k : Nat) (hk : k < n) : va_P D cl [(ea k, Ecell (wa k) (pf k) (cn k) (dp k) (oc k) (ic k) (lf k) (pt k))] H := q_one h (List.mem_append_right _ (List.mem_append_left _ (EW_mem hk)))
theorem W_at {D : va_G} {cl : List vw_C} {X Y : va_W} {H : Heap} {wa wd : Nat → Nat} {n : Nat} (h : va_P D cl (X ++ (Y ++ WW wa wd n)) H) (k : Nat) (hk : k < n) : va_P D cl [(wa k, Wcell (wd k))] H := q_one h (List.mem_append_right _ (List.mem_append_right _ (WW_mem hk)))
theorem rg_len {f : Nat → Nat} {n : Nat} : (rg f n).length = n := by rw [rg, List.length_map, List.length_range]
theorem rg_get {f : Nat → Nat} {n k : Nat} (h : k < n) : (rg f n)[k]? = some (f k) := by rw [rg, List.getElem?_map, List.getElem?_range h]; rfl
theorem ea_ix {a b : List Nat} {ea wa : Nat → Nat} {n : Nat} (m : Nat) (hm : a.length + b.length = m) (k : Nat) (h : k < n) : (a ++ (b ++ (rg ea n ++ rg wa n)))[m + k]? = some (ea k) := by
  rw [List.getElem?_append_right (by omega), List.getElem?_append_right (by omega), List.getElem?_append_left (by rw [rg_len]; omega), show m + k - a.length - b.length = k by omega, rg_get h]
theorem wa_ix {a b : List Nat} {ea wa : Nat → Nat} {n : Nat} (m : Nat) (hm : a.length + b.length = m) (k : Nat) (h : k < n) : (a ++ (b ++ (rg ea n ++ rg wa n)))[m + n + k]? = some (wa k) := by
  rw [List.getElem?_append_right (by omega), List.getElem?_append_right (by omega), List.getElem?_append_right (by rw [rg_len]; omega), rg_len, show m + n + k - a.length - b.length - n = k by omega, rg_get h]
/-- different places of a list without repetitions -/
theorem q_ndp {L l' : List Nat} (h : L.Nodup) (ps : List (Nat × Nat)) (h1 : ∀ x ∈ ps, L[x.1]? = some x.2) (h2 : (ps.map (·.1)).Nodup) (he : ps.map (·.2) = l') : l'.Nodup := by
  subst he
  refine List.pairwise_iff_getElem.mpr (fun i j hi hj hij e => ?_)
  have hi2 : i < ps.length := by simpa using hi
  have hj2 : j < ps.length := by simpa using hj
  have a1 := h1 ps[i] (List.getElem_mem hi2)
  have a2 := h1 ps[j] (List.getElem_mem hj2)
  have e2 : ps[i].2 = ps[j].2 := by simpa using e
  have hlt : ps[i].1 < L.length := (List.getElem?_eq_some_iff.mp a1).1
  have e3 : ps[i].1 = ps[j].1 := (List.getElem?_inj hlt h).mp (by rw [a1, a2, e2])
  have := List.pairwise_iff_getElem.mp h2 i j (by simpa using hi2) (by simpa using hj2) hij
  exact this (by simpa using e3)
theorem q_ndl {a b t : List Nat} (h : (a ++ (b ++ t)).Nodup) : (a ++ b).Nodup := by
  rw [← List.append_assoc] at h
  exact (List.nodup_append.mp h).1
theorem q_ndt {a b t a' b' : List Nat} (h : (a ++ (b ++ t)).Nodup) (ks : List Nat) (hn : va_nd ks = true) (he : ks.map (fun i => (a ++ b)[i]?) = (a' ++ b').map some) : (a' ++ (b' ++ t)).Nodup := by
  have h1 := q_nds (q_ndl h) ks hn he
  rw [← List.append_assoc] at h ⊢
  obtain ⟨-, h2, h3⟩ := List.nodup_append.mp h
  refine List.nodup_append.mpr ⟨h1, h2, fun x hx y hy => h3 x ?_ y hy⟩
  have : (some x) ∈ (a' ++ b').map some := List.mem_map.mpr ⟨x, hx, rfl⟩
  rw [← he] at this
  obtain ⟨i, -, hi⟩ := List.mem_map.mp this
  exact List.mem_of_getElem? hi
theorem E_any {s : State} {H : Heap} {D : va_G} {tys : List (ClassId × FieldType)} {a : Nat} {fs : List Value} (hK : va_K D vwCl tys s) (hP : va_P D vwCl [(a, .inr (0, fs))] H) : va_Any "FuzzyFens$Entry" s H a := va_rAny hK hP (q0 := 0) (ci := 0) rfl rfl (fun comp c0 h1 h2 => by
  have : comp = c0 := Option.some.inj (h1.symm.trans h2)
  rw [this]; exact va_asg _ _)
def cnt (P : Nat → Bool) : Nat → Nat
  | 0 => 0
  | m + 1 => cnt P m + if P m then 1 else 0
theorem cnt_le (P : Nat → Bool) : ∀ m, cnt P m ≤ m := by
  intro m
  induction m with
  | zero => exact Nat.le_refl _
  | succ m ih => show cnt P m + _ ≤ _; split <;> omega
/-- a row with one more, put in at a place -/
def insF (f : Nat → Nat) (p x : Nat) : Nat → Nat := fun j => if j < p then f j else if j = p then x else f (j - 1)
/-- a row without the one at a place -/
def remF (f : Nat → Nat) (p : Nat) : Nat → Nat := fun j => if j < p then f j else f (j + 1)
theorem q_upn {α : Type} {f : Nat → α} {k j : Nat} {v : α} (h : j ≠ k) : va_up f k v j = f j := if_neg h
theorem q_ups {α : Type} {f : Nat → α} {k : Nat} {v : α} : va_up f k v k = v := if_pos rfl
theorem q_ifeq {P Q : Prop} [Decidable P] [Decidable Q] (h : P ↔ Q) : (if P then (1 : Int32) else 0) = if Q then 1 else 0 := by
  by_cases hp : P
  · rw [if_pos hp, if_pos (h.mp hp)]
  · rw [if_neg hp, if_neg (fun hq => hp (h.mpr hq))]
theorem cnt_t {P : Nat → Bool} {m : Nat} (h : P m = true) : cnt P (m + 1) = cnt P m + 1 := by show cnt P m + _ = _; rw [h]; rfl
theorem cnt_f {P : Nat → Bool} {m : Nat} (h : ¬ P m = true) : cnt P (m + 1) = cnt P m := by show cnt P m + _ = _; rw [if_neg h]; rfl
/-- who is offered ahead of whom: prices, counts, the alphabet -/
abbrev rkb (pz oc wd : Nat → Nat) (i k : Nat) : Prop := pz i < pz k ∨ (pz i = pz k ∧ (oc k < oc i ∨ (oc i = oc k ∧ al (wd i) < al (wd k))))
