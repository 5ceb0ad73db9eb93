/-! the tree: a node's number is the distance of all that is below it; what a search meets -/
def anc (pa : Nat → Option Nat) : Nat → Nat → Option Nat
  | 0, i => some i
  | j + 1, i => (anc pa j i).bind pa
theorem anc_s (pa : Nat → Option Nat) : ∀ j i, anc pa (j + 1) i = (pa i).bind (anc pa j) := by
  intro j
  induction j with
  | zero => intro i; show pa i = (pa i).bind (anc pa 0); cases pa i <;> rfl
  | succ j ih =>
    intro i
    show (anc pa (j + 1) i).bind pa = _
    rw [ih]
    cases e : pa i with
    | none => rfl
    | some q => rfl
theorem anc_le {pa : Nat → Option Nat} {n : Nat} (hpn : ∀ k i, k < n → pa k = some i → i < k) : ∀ j i q, i < n → anc pa j i = some q → q ≤ i := by
  intro j
  induction j with
  | zero => intro i q _ h; cases h; exact Nat.le_refl _
  | succ j ih =>
    intro i q hi h
    rw [anc_s] at h
    cases e : pa i with
    | none => rw [e] at h; exact nomatch h
    | some c =>
      rw [e] at h
      have h1 := hpn i c hi e
      have h2 := ih c q (by omega) h
      omega
theorem anc_cg {pa p2 : Nat → Option Nat} {n : Nat} (hpn : ∀ k i, k < n → pa k = some i → i < k) (h : ∀ k, k < n → p2 k = pa k) : ∀ j i, i < n → anc p2 j i = anc pa j i := by
  intro j
  induction j with
  | zero => intro i _; rfl
  | succ j ih =>
    intro i hi
    rw [anc_s, anc_s, h i hi]
    cases e : pa i with
    | none => rfl
    | some c => exact ih c (by have := hpn i c hi e; omega)
/-- all numbers of the tree are distances, also to what is further below -/
def BK (n : Nat) (wd : Nat → Nat) (pa : Nat → Option Nat) (nm : Nat → Nat) : Prop := ∀ i j q p, i < n → anc pa j i = some q → pa q = some p → nm q = dst wd (wd i) p
theorem bk_0 {wd nm : Nat → Nat} {pa : Nat → Option Nat} : BK 0 wd pa nm := fun i j q p h => by omega
theorem dst_w {wd w2 : Nat → Nat} {a p : Nat} (h : w2 p = wd p) : dst w2 a p = dst wd a p := by unfold dst; rw [h]
theorem bk_cg {n : Nat} {wd w2 nm nm2 : Nat → Nat} {pa p2 : Nat → Option Nat} (hpn : ∀ k i, k < n → pa k = some i → i < k) (h : BK n wd pa nm) (hw : ∀ k, k < n → w2 k = wd k) (hp : ∀ k, k < n → p2 k = pa k) (hn : ∀ k, k < n → nm2 k = nm k) : BK n w2 p2 nm2 := by
  intro i j q p hi h1 h2
  rw [anc_cg hpn hp j i hi] at h1
  have hq := anc_le hpn j i q hi h1
  rw [hp q (by omega)] at h2
  have h3 := hpn q p (by omega) h2
  rw [hn q (by omega), dst_w (hw p (by omega)), hw i hi]
  exact h i j q p hi h1 h2
/-- what a word's way into the tree has passed has its distances -/
theorem pp_plw {n a : Nat} {wd nm : Nat → Nat} {pa : Nat → Option Nat} (hpn : ∀ k i, k < n → pa k = some i → i < k) : ∀ f x, (∀ j q p, anc pa j x = some q → pa q = some p → nm q = dst wd a p) → ∀ j q p, anc pa j (plw (chf wd pa nm a n) f x) = some q → pa q = some p → nm q = dst wd a p := by
  intro f
  induction f with
  | zero => intro x h; exact h
  | succ f ih =>
    intro x h
    cases e : chf wd pa nm a n x with
    | none => rw [plw_none e]; exact h
    | some c =>
      rw [plw_some e]
      refine ih c (fun j q p h1 h2 => ?_)
      have h3 := of_decide_eq_true (ffi_some e).2
      cases j with
      | zero => cases h1; rw [h3.1] at h2; cases h2; exact h3.2
      | succ j => rw [anc_s, h3.1] at h1; exact h j q p h1 h2
theorem bk_new {n a : Nat} {wd w2 nm nm2 : Nat → Nat} {pa p2 : Nat → Option Nat} (hpn : ∀ k i, k < n → pa k = some i → i < k) (h : BK n wd pa nm) (hw : ∀ k, k < n → w2 k = wd k) (hwn : w2 n = a) (hp : ∀ k, k < n → p2 k = pa k) (hn : ∀ k, k < n → nm2 k = nm k)
    (hN : (n = 0 ∧ p2 n = none) ∨ (0 < n ∧ p2 n = some (plw (chf wd pa nm a n) n 0) ∧ nm2 n = dst wd a (plw (chf wd pa nm a n) n 0))) : BK (n + 1) w2 p2 nm2 := by
  intro i j q p hi h1 h2
  by_cases ei : i < n
  · exact bk_cg hpn h hw hp hn i j q p ei h1 h2
  · obtain rfl : i = n := by omega
    rw [hwn]
    rcases hN with ⟨h0, h3⟩ | ⟨h0, h3, h4⟩
    · cases j with
      | zero => cases h1; rw [h3] at h2; exact nomatch h2
      | succ j => rw [anc_s, h3] at h1; exact nomatch h1
    · have hC := chf_lt (wd := wd) (nm := nm) (a := a) (n := i) hpn
      have hL := plw_lt hC i 0 h0
      cases j with
      | zero =>
        cases h1
        rw [h3] at h2
        cases h2
        rw [h4, dst_w (hw _ hL)]
      | succ j =>
        rw [anc_s, h3] at h1
        have h1 : anc p2 j (plw (chf wd pa nm a i) i 0) = some q := h1
        rw [anc_cg hpn hp j _ hL] at h1
        have hq := anc_le hpn j _ q hL h1
        rw [hp q (by omega)] at h2
        have hqp := hpn q p (by omega) h2
        rw [hn q (by omega), dst_w (hw p (by omega))]
        refine pp_plw hpn i 0 (fun j q p h5 h6 => ?_) j q p h1 h2
        have h7 := anc_le hpn j 0 q h0 h5
        obtain rfl : q = 0 := by omega
        have := hpn 0 p h0 h6
        omega
/-- a search meets each word that is near -/
theorem ccf_near {n v k : Nat} {wd nm : Nat → Nat} {pa : Nat → Option Nat} (hpn : ∀ k i, k < n → pa k = some i → i < k) (h : BK n wd pa nm) {t : Nat} (ht : t < n) (hd : dst wd v t ≤ k) : ccf pa nm wd v k t = true := by
  have key : ∀ q, (∃ j, anc pa j t = some q) → ccf pa nm wd v k q = true := by
    intro q
    induction q using Nat.strongRecOn with
    | ind q ih =>
      rintro ⟨j, hj⟩
      have hq := anc_le hpn j t q ht hj
      refine (ccf_eq hpn q (by omega)).mpr (fun p hp => ?_)
      have h1 := hpn q p (by omega) hp
      have h2 := h t j q p ht hj hp
      have h3 := dst_tri (wd := wd) v (wd t) p (i := t) rfl
      refine ⟨ih p h1 ⟨j + 1, by show (anc pa j t).bind pa = some p; rw [hj]; exact hp⟩, ?_, ?_⟩ <;> omega
  exact key t ⟨0, rfl⟩
theorem compared_near {n m v k : Nat} {wd nm ct ki : Nat → Nat} {pa : Nat → Option Nat} (hpn : ∀ k i, k < n → pa k = some i → i < k) (h : BK n wd pa nm) (hK : KN ct ki m n) (hS : SRT wd ki m) : cnt (fun j => decide (dst wd v (ki j) ≤ k)) m ≤ cnt (ccf pa nm wd v k) n := by
  have h1 := q_nd_le (l1 := (cnl (fun j => decide (dst wd v (ki j) ≤ k)) m).map ki) (l2 := cnl (ccf pa nm wd v k) n) (map_nd (cnl_nd _ m) (fun a b ha hb e => srt_inj hS a b ((cnl_mem m).mp ha).1 ((cnl_mem m).mp hb).1 e)) (fun x hx => by
    obtain ⟨j, h1, h2⟩ := List.mem_map.mp hx
    obtain ⟨h3, h4⟩ := (cnl_mem m).mp h1
    rw [← h2]
    exact (cnl_mem n).mpr ⟨(hK.1 j h3).1, ccf_near hpn h (hK.1 j h3).1 (of_decide_eq_true h4)⟩)
  rw [List.length_map, cnl_len, cnl_len] at h1
  exact h1
