/-! what both sides are after the same doings, and what the two changes make of it -/
theorem plw_end {C : Nat → Option Nat} {n : Nat} (hC : ∀ q c, C q = some c → q < c ∧ c < n) : ∀ f q, q < n → n ≤ f + q → C (plw C f q) = none := by
  intro f
  induction f with
  | zero => intro q h1 h2; omega
  | succ f ih =>
    intro q h1 h2
    cases e : C q with
    | none => rw [plw_none e]; exact e
    | some c => have := hC _ _ e; rw [plw_some e]; exact ih c this.2 (by omega)
theorem kn_ins {wd ct c2 ki : Nat → Nat} {m n n2 i : Nat} (hg : ∀ k, k < n2 → gw (wd k)) (hwi : ∀ i j, i < n2 → j < n2 → wd i = wd j → i = j) (hK : KN ct ki m n) (hs : SRT wd ki m) (hnn : n ≤ n2) (hi : i < n2) (hi0 : ∀ j, j < m → ki j ≠ i)
    (hc : ∀ k, k < n2 → k ≠ i → (0 < c2 k ↔ (k < n ∧ 0 < ct k))) (hci : 0 < c2 i) : KN c2 (insF ki (cnt (fun j => decide (al (wd (ki j)) < al (wd i))) m) i) (m + 1) n2 ∧ SRT wd (insF ki (cnt (fun j => decide (al (wd (ki j)) < al (wd i))) m) i) (m + 1) := by
  have hp := cnt_le (fun j => decide (al (wd (ki j)) < al (wd i))) m
  refine ⟨⟨?_, ?_⟩, ?_⟩
  · exact insF_all (P := fun x => x < n2 ∧ 0 < c2 x) hp (fun j hj => by
      have h1 := hK.1 j hj
      have h2 : ki j < n2 := by omega
      exact ⟨h2, (hc _ h2 (hi0 j hj)).mpr h1⟩) ⟨hi, hci⟩
  · intro k hk h0
    refine insF_sur hp ?_
    by_cases e : k = i
    · exact Or.inr e
    · have h1 := (hc k hk e).mp h0
      exact Or.inl (hK.2 k h1.1 h1.2)
  · refine ins_sort (T := fun x y => al (wd x) < al (wd y)) (P := fun j => decide (al (wd (ki j)) < al (wd i))) (fun j hj => decide_eq_true_iff) hs (fun a b c h1 h2 => Nat.lt_trans h1 h2) (fun j hj => ?_)
    have h1 := hK.1 j hj
    have h2 : ki j < n2 := by omega
    have h3 : al (wd (ki j)) ≠ al (wd i) := fun e => hi0 j hj (hwi _ _ h2 hi (al_inj (hg _ h2) (hg _ hi) e))
    show al (wd (ki j)) < al (wd i) ∨ al (wd i) < al (wd (ki j))
    omega
theorem kn_rem {wd ct c2 ki : Nat → Nat} {m n p i : Nat} (hK : KN ct ki m n) (hs : SRT wd ki m) (hp : p < m) (hi : ki p = i) (hc : ∀ k, k ≠ i → c2 k = ct k) (h0 : c2 i = 0) : KN c2 (remF ki p) (m - 1) n ∧ SRT wd (remF ki p) (m - 1) := by
  refine ⟨⟨?_, ?_⟩, remF_sort (T := fun x y => al (wd x) < al (wd y)) hs⟩
  · intro j hj
    obtain ⟨t, h1, h2, h3⟩ := remF_mem (f := ki) hp hj
    have h4 := hK.1 t h1
    have h5 : ki t ≠ i := fun e => h2 (srt_inj hs t p h1 hp (e.trans hi.symm))
    rw [h3, hc _ h5]
    exact h4
  · intro k hk hk0
    have h1 : k ≠ i := fun e => by rw [e, h0] at hk0; omega
    rw [hc _ h1] at hk0
    obtain ⟨j, h2, h3⟩ := hK.2 k hk hk0
    exact remF_sur hp ⟨j, h2, fun e => h1 (by rw [← h3, e]; exact hi), h3⟩
def INV (n : Nat) (wd ct : Nat → Nat) (pa : Nat → Option Nat) (nm dp ki : Nat → Nat) (m : Nat) : Prop :=
  n ≤ 40 ∧ (∀ k, k < n → gw (wd k)) ∧ (∀ i j, i < n → j < n → wd i = wd j → i = j) ∧ (∀ k, k < n → ct k ≤ 1000000) ∧ (∀ k i, k < n → pa k = some i → i < k) ∧ (∀ i j q, i < n → j < n → pa i = some q → pa j = some q → nm i = nm j → i = j) ∧
  (∀ k, k < n → nm k ≤ 20) ∧ (∀ k, n ≤ k → nm k = 0) ∧ (∀ k, k < n → (pa k = none → dp k = 0) ∧ ∀ q, pa k = some q → dp k = dp q + 1) ∧ KN ct ki m n ∧ SRT wd ki m
theorem inv_0 : INV 0 (fun _ => 0) (fun _ => 0) (fun _ => none) (fun _ => 0) (fun _ => 0) (fun _ => 0) 0 :=
  ⟨by omega, fun k h => by omega, fun i j h => by omega, fun k h => by omega, fun k i h => by omega, fun i j q h => by omega, fun k h => by omega, fun k h => rfl, fun k h => by omega, ⟨fun j h => by omega, fun i h => by omega⟩, fun i j h1 h2 => by omega⟩
section INV
variable {n m : Nat} {wd ct : Nat → Nat} {pa : Nat → Option Nat} {nm dp ki : Nat → Nat}
theorem inv_old (h : INV n wd ct pa nm dp ki m) {i v : Nat} (hi : i < n) (h0 : 0 < ct i) (hv : 0 < v ∧ v ≤ 1000000) : INV n wd (va_up ct i v) pa nm dp ki m := by
  obtain ⟨h1, h2, h3, h4, h5, h6, h7, h8, h9, hK, hS⟩ := h
  refine ⟨h1, h2, h3, fun k hk => ?_, h5, h6, h7, h8, h9, ⟨fun j hj => ⟨(hK.1 j hj).1, ?_⟩, fun k hk hk0 => ?_⟩, hS⟩
  · by_cases e : k = i
    · rw [e, q_ups]; exact hv.2
    · rw [q_upn e]; exact h4 k hk
  · by_cases e : ki j = i
    · rw [e, q_ups]; exact hv.1
    · rw [q_upn e]; exact (hK.1 j hj).2
  · by_cases e : k = i
    · rw [e]; exact hK.2 i hi h0
    · rw [q_upn e] at hk0; exact hK.2 k hk hk0
theorem inv_old0 (h : INV n wd ct pa nm dp ki m) {i v : Nat} (hi : i < n) (h0 : ct i = 0) (hv : 0 < v ∧ v ≤ 1000000) : INV n wd (va_up ct i v) pa nm dp (insF ki (cnt (fun j => decide (al (wd (ki j)) < al (wd i))) m) i) (m + 1) := by
  obtain ⟨h1, h2, h3, h4, h5, h6, h7, h8, h9, hK, hS⟩ := h
  have hKS := kn_ins (c2 := va_up ct i v) (i := i) h2 h3 hK hS (Nat.le_refl _) hi (fun j hj e => by have := (hK.1 j hj).2; rw [e] at this; omega) (fun k hk e => by rw [q_upn e]; exact ⟨fun h => ⟨hk, h⟩, fun h => h.2⟩) (by rw [q_ups]; exact hv.1)
  refine ⟨h1, h2, h3, fun k hk => ?_, h5, h6, h7, h8, h9, hKS.1, hKS.2⟩
  by_cases e : k = i
  · rw [e, q_ups]; exact hv.2
  · rw [q_upn e]; exact h4 k hk
theorem inv_fg (h : INV n wd ct pa nm dp ki m) {i p : Nat} (hp : p < m) (hi : ki p = i) : INV n wd (va_up ct i 0) pa nm dp (remF ki p) (m - 1) := by
  obtain ⟨h1, h2, h3, h4, h5, h6, h7, h8, h9, hK, hS⟩ := h
  have hKS := kn_rem (c2 := va_up ct i 0) hK hS hp hi (fun k e => q_upn e) q_ups
  refine ⟨h1, h2, h3, fun k hk => ?_, h5, h6, h7, h8, h9, hKS.1, hKS.2⟩
  by_cases e : k = i
  · rw [e, q_ups]; omega
  · rw [q_upn e]; exact h4 k hk
theorem inv_new (h : INV n wd ct pa nm dp ki m) {a v : Nat} {p2 : Nat → Option Nat} {nm2 d2 : Nat → Nat} (ha : gw a) (hn : n < 40) (hf : ffi (fun k => decide (wd k = a)) n = none) (hv : 0 < v ∧ v ≤ 1000000)
    (hp2 : ∀ k, k < n → p2 k = pa k) (hn2 : ∀ k, k ≠ n → nm2 k = nm k) (hd2 : ∀ k, k < n → d2 k = dp k)
    (hN : (n = 0 ∧ p2 n = none ∧ nm2 n = 0 ∧ d2 n = 0) ∨ (0 < n ∧ p2 n = some (plw (chf wd pa nm a n) n 0) ∧ nm2 n = dst wd a (plw (chf wd pa nm a n) n 0) ∧ d2 n = dp (plw (chf wd pa nm a n) n 0) + 1)) :
    INV (n + 1) (va_up wd n a) (va_up ct n v) p2 nm2 d2 (insF ki (cnt (fun j => decide (al (va_up wd n a (ki j)) < al (va_up wd n a n))) m) n) (m + 1) := by
  obtain ⟨h1, h2, h3, h4, h5, h6, h7, h8, h9, hK, hS⟩ := h
  have hC := chf_lt (wd := wd) (nm := nm) (a := a) (n := n) h5
  have hno := ffi_none hf
  have hwn : ∀ k, k < n → va_up wd n a k = wd k := fun k hk => q_upn (by omega)
  have hcn : ∀ k, k < n → va_up ct n v k = ct k := fun k hk => q_upn (by omega)
  have hg2 : ∀ k, k < n + 1 → gw (va_up wd n a k) := fun k hk => by
    by_cases e : k = n
    · rw [e, q_ups]; exact ha
    · rw [q_upn e]; exact h2 k (by omega)
  have hne : ∀ k, k < n → wd k ≠ a := fun k hk e => hno k hk (decide_eq_true e)
  have hwi2 : ∀ i j, i < n + 1 → j < n + 1 → va_up wd n a i = va_up wd n a j → i = j := fun i j hi hj e => by
    by_cases ei : i = n
    · by_cases ej : j = n
      · omega
      · rw [ei, q_ups, q_upn ej] at e; exact absurd e.symm (hne j (by omega))
    · by_cases ej : j = n
      · rw [ej, q_ups, q_upn ei] at e; exact absurd e (hne i (by omega))
      · rw [q_upn ei, q_upn ej] at e; exact h3 i j (by omega) (by omega) e
  have hsr : SRT (va_up wd n a) ki m := fun i j hij hj => by
    rw [hwn _ (hK.1 i (by omega)).1, hwn _ (hK.1 j hj).1]; exact hS i j hij hj
  have hKS := kn_ins (c2 := va_up ct n v) (n2 := n + 1) (i := n) hg2 hwi2 hK hsr (by omega) (by omega) (fun j hj e => by have := (hK.1 j hj).1; omega) (fun k hk e => by rw [q_upn e]; exact ⟨fun h => ⟨by omega, h⟩, fun h => h.2⟩) (by rw [q_ups]; exact hv.1)
  have hw20 : ∀ q, q < n → dst wd a q ≤ 20 := fun q hq => dst_20 (gw_wl ha) (gw_wl (h2 q hq))
  refine ⟨by omega, hg2, hwi2, fun k hk => ?_, fun k i hk hpi => ?_, ?_, fun k hk => ?_, fun k hk => ?_, fun k hk => ?_, hKS.1, hKS.2⟩
  · by_cases e : k = n
    · rw [e, q_ups]; exact hv.2
    · rw [q_upn e]; exact h4 k (by omega)
  · by_cases e : k = n
    · rcases hN with ⟨h0, hp, _⟩ | ⟨h0, hp, _⟩
      · rw [e, hp] at hpi; exact nomatch hpi
      · rw [e, hp] at hpi
        cases hpi
        rw [e]; exact plw_lt hC _ _ h0
    · exact h5 k i (by omega) ((hp2 k (by omega)).symm.trans hpi)
  · have hnew : ∀ j q, j < n → p2 n = some q → pa j = some q → nm2 n = nm j → False := fun j q hj hq hpj e => by
      rcases hN with ⟨h0, hp, _⟩ | ⟨h0, hp, hnn, _⟩
      · omega
      · rw [hp] at hq
        cases hq
        have he := plw_end hC n 0 h0 (by omega)
        exact ffi_none he j hj (decide_eq_true ⟨hpj, by rw [← e, hnn]⟩)
    intro i j q hi hj hpi hpj e
    by_cases ei : i = n
    · by_cases ej : j = n
      · omega
      · rw [ei] at hpi e
        rw [hp2 j (by omega)] at hpj
        rw [hn2 j ej] at e
        exact (hnew j q (by omega) hpi hpj e).elim
    · by_cases ej : j = n
      · rw [ej] at hpj e
        rw [hp2 i (by omega)] at hpi
        rw [hn2 i ei] at e
        exact (hnew i q (by omega) hpj hpi e.symm).elim
      · rw [hp2 i (by omega)] at hpi
        rw [hp2 j (by omega)] at hpj
        rw [hn2 i ei, hn2 j ej] at e
        exact h6 i j q (by omega) (by omega) hpi hpj e
  · by_cases e : k = n
    · rcases hN with ⟨h0, hp, hz, _⟩ | ⟨h0, hp, hz, _⟩
      · rw [e, hz]; omega
      · rw [e, hz]; exact hw20 _ (plw_lt hC _ _ h0)
    · rw [hn2 k e]; exact h7 k (by omega)
  · rw [hn2 k (by omega)]; exact h8 k (by omega)
  · by_cases e : k = n
    · rcases hN with ⟨h0, hp, _, hz⟩ | ⟨h0, hp, _, hz⟩
      · rw [e, hz, hp]; exact ⟨fun _ => rfl, fun q h => nomatch h⟩
      · rw [e, hz, hp]
        refine ⟨fun h => (nomatch h), fun q h => ?_⟩
        cases h
        rw [hd2 _ (plw_lt hC _ _ h0)]
    · rw [hp2 k (by omega), hd2 k (by omega)]
      refine ⟨(h9 k (by omega)).1, fun q hq => ?_⟩
      have := h5 k q (by omega) hq
      rw [hd2 q (by omega)]
      exact (h9 k (by omega)).2 q hq
/-- a state is what it is below its number -/
theorem inv_cg (h : INV n wd ct pa nm dp ki m) {w2 c2 d2 k2 : Nat → Nat} {p2 : Nat → Option Nat} {nm2 : Nat → Nat} (hw : ∀ k, k < n → w2 k = wd k) (hc : ∀ k, k < n → c2 k = ct k) (hp : ∀ k, k < n → p2 k = pa k) (hn : ∀ k, nm2 k = nm k) (hd : ∀ k, k < n → d2 k = dp k) (hk : ∀ j, j < m → k2 j = ki j) :
    INV n w2 c2 p2 nm2 d2 k2 m := by
  obtain ⟨h1, h2, h3, h4, h5, h6, h7, h8, h9, hK, hS⟩ := h
  refine ⟨h1, fun k h => by rw [hw k h]; exact h2 k h, fun i j hi hj e => h3 i j hi hj (by rw [← hw i hi, ← hw j hj]; exact e), fun k h => by rw [hc k h]; exact h4 k h, fun k i h e => h5 k i h ((hp k h).symm.trans e),
    fun i j q hi hj e1 e2 e3 => h6 i j q hi hj ((hp i hi).symm.trans e1) ((hp j hj).symm.trans e2) (by rw [← hn i, ← hn j]; exact e3), fun k h => by rw [hn k]; exact h7 k h, fun k h => by rw [hn k]; exact h8 k h, fun k h => ?_, ⟨fun j hj => ?_, fun i hi h0 => ?_⟩, fun i j hij hj => ?_⟩
  · rw [hp k h, hd k h]
    refine ⟨(h9 k h).1, fun q hq => ?_⟩
    have := h5 k q h hq
    rw [hd q (by omega)]
    exact (h9 k h).2 q hq
  · rw [hk j hj, hc _ (hK.1 j hj).1]; exact hK.1 j hj
  · rw [hc i hi] at h0
    obtain ⟨j, h1, h2⟩ := hK.2 i hi h0
    exact ⟨j, h1, by rw [hk j h1]; exact h2⟩
  · rw [hk i (by omega), hk j hj, hw _ (hK.1 i (by omega)).1, hw _ (hK.1 j hj).1]; exact hS i j hij hj
end INV
