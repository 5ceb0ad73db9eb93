/-! what the property says of one state, in numbers -/
theorem cnt_le_of {P Q : Nat → Bool} : ∀ {r : Nat}, (∀ j, j < r → P j = true → Q j = true) → cnt P r ≤ cnt Q r := by
  intro r
  induction r with
  | zero => intro _; exact Nat.le_refl _
  | succ r ih =>
    intro h
    have h1 := ih (fun j hj => h j (by omega))
    by_cases hp : P r = true
    · rw [cnt_t hp, cnt_t (h r (by omega) hp)]; omega
    · rw [cnt_f hp]
      by_cases hq : Q r = true
      · rw [cnt_t hq]; omega
      · rw [cnt_f hq]; exact h1
theorem vcn_1 (k t : Nat) (L : Nat → Nat) : vcn k t L ≤ 1 := by unfold vcn; split <;> omega
theorem vis_vcn (k t : Nat) (L : Nat → Nat) (S : List Nat) : (vis k t L S).length ≤ S.length + vcn k t L := by
  unfold vis vcn
  split
  · exact ins_len _ _
  · exact Nat.le_refl _
theorem rac_le (k t w p : Nat) : ∀ c, rac k t w p c ≤ c := by
  intro c
  induction c with
  | zero => exact Nat.le_refl _
  | succ c ih => show rac k t w p c + vcn k t _ ≤ _; have := vcn_1 k t (lev (ltz w) (ltz t) (p + c + 1)); omega
theorem ral_rac (k t w p : Nat) (S : List Nat) : ∀ c, (ral k t w p S c).length ≤ S.length + rac k t w p c := by
  intro c
  induction c with
  | zero => exact Nat.le_refl _
  | succ c ih =>
    have h1 := vis_vcn k t (lev (ltz w) (ltz t) (p + c + 1)) (ral k t w p S c)
    show (vis k t _ _).length ≤ S.length + (rac k t w p c + vcn k t _)
    omega
theorem ren_tnd (k t : Nat) (wd ki : Nat → Nat) : ∀ m, ren k t wd ki m ≤ tnd wd ki m := by
  intro m
  induction m with
  | zero => exact vcn_1 _ _ _
  | succ m ih =>
    have := rac_le k t (wd (ki m)) (lpa wd ki m) (wl (wd (ki m)) - lpa wd ki m)
    show ren k t wd ki m + rac _ _ _ _ _ ≤ tnd wd ki m + _
    omega
theorem rel_ren (k t : Nat) (wd ki : Nat → Nat) : ∀ m, (rel k t wd ki m).length ≤ ren k t wd ki m := by
  intro m
  induction m with
  | zero =>
    have := vis_vcn k t (fun j => j) []
    show (vis k t _ []).length ≤ vcn k t _
    have e : ([] : List Nat).length = 0 := rfl
    omega
  | succ m ih =>
    have := ral_rac k t (wd (ki m)) (lpa wd ki m) (rel k t wd ki m) (wl (wd (ki m)) - lpa wd ki m)
    show (ral _ _ _ _ _ _).length ≤ ren k t wd ki m + rac _ _ _ _ _
    omega
theorem rkc_cnt (wd oc ki : Nat → Nat) (v k : Nat) : ∀ i, rkc wd oc ki v k i = cnt (fun j => decide (dst wd v (ki j) ≤ k)) i := by
  intro i
  induction i with
  | zero => rfl
  | succ i ih =>
    by_cases h : dst wd v (ki i) ≤ k
    · rw [rkc_s h, ih, cnt_t (decide_eq_true h)]
    · rw [rkc_k h, ih, cnt_f (by rw [decide_eq_true_eq]; exact h)]
/-- candidates without the false ones are the near words -/
theorem cand_sub {wd ki : Nat → Nat} {v k : Nat} : ∀ m, cnt (fun j => decide (cdk wd v k (ki j))) m = cnt (fun j => decide (cdk wd v k (ki j) ∧ ¬ dst wd v (ki j) ≤ k)) m + cnt (fun j => decide (dst wd v (ki j) ≤ k)) m := by
  intro m
  induction m with
  | zero => rfl
  | succ m ih =>
    by_cases h : dst wd v (ki m) ≤ k
    · have h1 : cdk wd v k (ki m) := cdk_of h
      rw [cnt_t (P := fun j => decide (cdk wd v k (ki j))) (decide_eq_true h1), cnt_t (P := fun j => decide (dst wd v (ki j) ≤ k)) (decide_eq_true h), cnt_f (P := fun j => decide (cdk wd v k (ki j) ∧ ¬ dst wd v (ki j) ≤ k)) (by rw [decide_eq_true_eq]; exact fun h9 => h9.2 h), ih]
      omega
    · by_cases h1 : cdk wd v k (ki m)
      · rw [cnt_t (P := fun j => decide (cdk wd v k (ki j))) (decide_eq_true h1), cnt_t (P := fun j => decide (cdk wd v k (ki j) ∧ ¬ dst wd v (ki j) ≤ k)) (decide_eq_true ⟨h1, h⟩), cnt_f (P := fun j => decide (dst wd v (ki j) ≤ k)) (by rw [decide_eq_true_eq]; exact h), ih]
        omega
      · rw [cnt_f (P := fun j => decide (cdk wd v k (ki j))) (by rw [decide_eq_true_eq]; exact h1), cnt_f (P := fun j => decide (cdk wd v k (ki j) ∧ ¬ dst wd v (ki j) ≤ k)) (by rw [decide_eq_true_eq]; exact fun h9 => h1 h9.1), cnt_f (P := fun j => decide (dst wd v (ki j) ≤ k)) (by rw [decide_eq_true_eq]; exact h), ih]
theorem ins_ge (L : List Nat) (v : Nat) : L.length ≤ (ins L v).length := by
  unfold ins
  split
  · exact Nat.le_refl _
  · rw [List.length_append]; omega
theorem csi_ge (v p : Nat) (L : List Nat) : ∀ q, L.length ≤ (csi v p L q).length := by
  intro q
  induction q with
  | zero => exact Nat.le_refl _
  | succ q ih => exact Nat.le_trans ih (ins_ge _ _)
theorem cso_ge (k v : Nat) : ∀ p, 1 ≤ (cso k v p).length := by
  intro p
  induction p with
  | zero =>
    show 1 ≤ (ins [] v).length
    unfold ins
    rw [if_neg List.not_mem_nil]
    exact Nat.le_refl 1
  | succ p ih =>
    unfold cso
    split
    · exact Nat.le_trans ih (Nat.le_trans (ins_ge _ _) (csi_ge _ _ _ _))
    · exact Nat.le_trans ih (ins_ge _ _)
theorem csq_ge (k v : Nat) : 1 ≤ (csq k v).length := cso_ge k v _
/-- the word's place among all -/
theorem ffi_wd {wd : Nat → Nat} {n : Nat} (hwi : ∀ i j, i < n → j < n → wd i = wd j → i = j) {i : Nat} (hi : i < n) : ffi (fun k => decide (wd k = wd i)) n = some i := by
  cases e : ffi (fun k => decide (wd k = wd i)) n with
  | none => exact absurd (decide_eq_true rfl) (ffi_none e i hi)
  | some j =>
    have h1 := ffi_some e
    rw [hwi j i h1.1 hi (of_decide_eq_true h1.2)]
/-- what of two words stands ahead, by their numbers alone; what they begin with -/
def bga (a b s : Nat) : Prop := al a / 32 ^ (10 - s) = al b / 32 ^ (10 - s)
theorem bga_0 {a b : Nat} (ha : wl a ≤ 10) (hb : wl b ≤ 10) : bga a b 0 := by
  unfold bga
  have h1 := al_lt ha
  have h2 := al_lt hb
  have e : (32 : Nat) ^ (10 - 0) = 2 ^ 50 := by decide
  rw [e, Nat.div_eq_of_lt h1, Nat.div_eq_of_lt h2]
theorem bga_dn {a b s : Nat} (hs : s < 10) (h : bga a b (s + 1)) : bga a b s := by
  unfold bga at h ⊢
  rw [show 10 - s = (10 - (s + 1)) + 1 by omega, Nat.pow_succ, ← Nat.div_div_eq_div_mul, ← Nat.div_div_eq_div_mul, h]
theorem bga_lo {a b : Nat} : ∀ {d s : Nat}, s + d ≤ 10 → bga a b (s + d) → bga a b s := by
  intro d
  induction d with
  | zero => intro s _ h; exact h
  | succ d ih => intro s hs h; exact ih (by omega) (bga_dn (by omega) h)
theorem lpa_bga {wd ki : Nat → Nat} {m i s : Nat} (hg : ∀ j, j < m → gw (wd (ki j))) (hi : i < m) (h0 : 0 < i) (hs : s ≤ 10) (h1 : bga (wd (ki i)) (wd (ki (i - 1))) s) (h2 : s = 10 ∨ ¬ bga (wd (ki i)) (wd (ki (i - 1))) (s + 1)) : lpa wd ki i = min s (wl (wd (ki i))) := by
  have ga := hg i hi
  have gb := hg (i - 1) (by omega)
  have wa := gw_wl ga
  have wb := gw_wl gb
  have hl := lpa_le wd ki i
  have k1 := (lpa_iff hg hi h0 (k := lpa wd ki i)).mp (Nat.le_refl _)
  have k2 : bga (wd (ki i)) (wd (ki (i - 1))) (lpa wd ki i) := by
    unfold bga
    rw [al_pre wa k1.1, al_pre wb k1.2.1, k1.2.2]
  have k3 : lpa wd ki i ≤ s := by
    refine Nat.le_of_not_lt (fun hlt => ?_)
    rcases h2 with h2 | h2
    · omega
    · refine h2 (bga_lo (d := lpa wd ki i - (s + 1)) (by omega) ?_)
      rw [show s + 1 + (lpa wd ki i - (s + 1)) = lpa wd ki i by omega]; exact k2
  refine Nat.le_antisymm (by omega) ?_
  have k4 : bga (wd (ki i)) (wd (ki (i - 1))) (min s (wl (wd (ki i)))) := by
    refine bga_lo (d := s - min s (wl (wd (ki i)))) (by omega) ?_
    rw [show min s (wl (wd (ki i))) + (s - min s (wl (wd (ki i)))) = s by omega]; exact h1
  generalize hk : min s (wl (wd (ki i))) = k at k4 ⊢
  rcases Nat.eq_zero_or_pos k with hz | hz
  · omega
  have k5 : k ≤ wl (wd (ki i)) := by omega
  unfold bga at k4
  rw [al_pre wa k5] at k4
  have k6 : k ≤ wl (wd (ki (i - 1))) := by
    refine Nat.le_of_not_lt (fun hlt => ?_)
    have h7 := al_pre2 (n := wd (ki (i - 1))) (k := k) (by omega) hlt
    rw [← k4] at h7
    exact beg_mod ga hz k5 h7
  rw [al_pre wb k6] at k4
  exact (lpa_iff hg hi h0).mpr ⟨k5, k6, k4.symm⟩
theorem lpa_0 (wd ki : Nat → Nat) : lpa wd ki 0 = 0 := rfl
/-- a word moved to the left -/
theorem al_ge {w : Nat} (h : gw w) : 2 ^ 45 ≤ al w := by
  have h1 := wl_ge h.1
  have h2 := gw_wl h
  have h3 := gw_pos h
  unfold al
  have e : (2 : Nat) ^ 45 = 32 ^ (wl w - 1) * 32 ^ (10 - wl w) := by
    rw [← Nat.pow_add, show wl w - 1 + (10 - wl w) = 9 by omega]
  rw [e]
  exact Nat.mul_le_mul_right _ h1
theorem al_part {w c : Nat} (h : gw w) (hc : wl w + c < 10) : w * 32 ^ c < 2 ^ 45 := by
  have h1 := wl_lt w
  have h2 : w * 32 ^ c < 32 ^ wl w * 32 ^ c := Nat.mul_lt_mul_of_pos_right h1 (Nat.pow_pos (by decide))
  rw [← Nat.pow_add] at h2
  have h3 : 32 ^ (wl w + c) ≤ 32 ^ 9 := Nat.pow_le_pow_right (by decide) (by omega)
  have e : (32 : Nat) ^ 9 = 2 ^ 45 := by decide
  omega
theorem al_end {w c : Nat} (h : gw w) (hc : wl w + c ≤ 10) (h2 : 2 ^ 45 ≤ w * 32 ^ c) : w * 32 ^ c = al w := by
  have h3 : ¬ wl w + c < 10 := fun h9 => by have := al_part h h9; omega
  unfold al
  rw [show 10 - wl w = c by omega]
/-- a row of words in which near ones are counted and the nearest is kept -/
theorem near_iff {wd ki : Nat → Nat} {v k m : Nat} : (0 < cnt (fun j => decide (dst wd v (ki j) ≤ k)) m) ↔ ∃ d, nrk wd ki v m = some d ∧ d ≤ k := by
  have h1 := nrk_min (wd := wd) (ki := ki) (v := v) m
  constructor
  · intro h
    have h2 : ∃ j, j < m ∧ dst wd v (ki j) ≤ k := by
      refine Decidable.byContradiction (fun hno => ?_)
      have : cnt (fun j => decide (dst wd v (ki j) ≤ k)) m ≤ cnt (fun _ => false) m := cnt_le_of (fun j hj h9 => absurd ⟨j, hj, of_decide_eq_true h9⟩ hno)
      have h0 : ∀ r, cnt (fun _ => false) r = 0 := by
        intro r
        induction r with
        | zero => rfl
        | succ r ih => rw [cnt_f (by decide)]; exact ih
      rw [h0] at this
      omega
    obtain ⟨j, hj, hjk⟩ := h2
    cases e : nrk wd ki v m with
    | none => have := h1.1 e; omega
    | some d => exact ⟨d, rfl, Nat.le_trans ((h1.2 d e).2 j hj) hjk⟩
  · rintro ⟨d, hd, hk⟩
    obtain ⟨⟨j, hj, e⟩, -⟩ := h1.2 d hd
    refine Nat.pos_of_ne_zero (fun h0 => ?_)
    have h3 := (cnl_mem (P := fun j => decide (dst wd v (ki j) ≤ k)) (x := j) m).mpr ⟨hj, decide_eq_true (by omega)⟩
    have h4 := cnl_len (fun j => decide (dst wd v (ki j) ≤ k)) m
    rw [h0] at h4
    rw [List.length_eq_zero_iff.mp h4] at h3
    exact absurd h3 List.not_mem_nil
/-- the least number so far, as the property keeps it -/
theorem nrk_step {wd ki : Nat → Nat} {v i : Nat} {d : Nat} (hd : d = dst wd v (ki i)) : nrk wd ki v (i + 1) = some (match nrk wd ki v i with | none => d | some e => if d < e then d else e) := by
  subst hd
  cases e : nrk wd ki v i with
  | none => rw [nrk_n e]
  | some x =>
    rw [nrk_s e]
    show some (min x _) = some (if _ < x then _ else x)
    congr 1
    split <;> omega
section RK2
variable {wd ct ki : Nat → Nat} {v k m n : Nat}
/-- the ranked: each is known and near, and none stands ahead of the one before -/
theorem rko_fact (hK : KN ct ki m n) (hs : SRT wd ki m) {j : Nat} (hj : j < cnt (fun j => decide (dst wd v (ki j) ≤ k)) m) : rko wd ct ki v k m j < n ∧ 0 < ct (rko wd ct ki v k m j) ∧ dst wd v (rko wd ct ki v k m j) ≤ k := by
  rw [← rkc_cnt wd ct ki v k m] at hj
  obtain ⟨t, h1, h2, h3⟩ := (rko_all (oc := ct) (v := v) (k := k) hs m (Nat.le_refl _)).1 j hj
  rw [h2]
  exact ⟨(hK.1 t h1).1, (hK.1 t h1).2, h3⟩
theorem rko_ord (hs : SRT wd ki m) {j : Nat} (hj : j + 1 < cnt (fun j => decide (dst wd v (ki j) ≤ k)) m) : rkb (pzf wd v) ct wd (rko wd ct ki v k m j) (rko wd ct ki v k m (j + 1)) := by
  rw [← rkc_cnt wd ct ki v k m] at hj
  exact (rko_all (oc := ct) (v := v) (k := k) hs m (Nat.le_refl _)).2.2 j (j + 1) (by omega) hj
theorem rko_ne (hs : SRT wd ki m) {j : Nat} (hj : j + 1 < cnt (fun j => decide (dst wd v (ki j) ≤ k)) m) : rko wd ct ki v k m (j + 1) ≠ rko wd ct ki v k m j := fun e => by
  have h1 := rko_ord (ct := ct) hs hj
  rw [e] at h1
  exact rkb_asym _ _ h1 h1
end RK2
