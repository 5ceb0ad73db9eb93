/-! ranked words, from both sides -/
section RK
variable {pz oc wd : Nat → Nat}
theorem rkb_asym (x y : Nat) (h : rkb pz oc wd x y) : ¬ rkb pz oc wd y x := by
  intro h2
  have h : pz x < pz y ∨ (pz x = pz y ∧ (oc y < oc x ∨ (oc x = oc y ∧ al (wd x) < al (wd y)))) := h
  have h2 : pz y < pz x ∨ (pz y = pz x ∧ (oc x < oc y ∨ (oc y = oc x ∧ al (wd y) < al (wd x)))) := h2
  omega
theorem rkb_trans (x y z : Nat) (h : rkb pz oc wd x y) (h2 : rkb pz oc wd y z) : rkb pz oc wd x z := by
  have h : pz x < pz y ∨ (pz x = pz y ∧ (oc y < oc x ∨ (oc x = oc y ∧ al (wd x) < al (wd y)))) := h
  have h2 : pz y < pz z ∨ (pz y = pz z ∧ (oc z < oc y ∨ (oc y = oc z ∧ al (wd y) < al (wd z)))) := h2
  show pz x < pz z ∨ (pz x = pz z ∧ (oc z < oc x ∨ (oc x = oc z ∧ al (wd x) < al (wd z))))
  omega
theorem rkb_tot (x y : Nat) (h : al (wd x) < al (wd y)) : rkb pz oc wd x y ∨ rkb pz oc wd y x := by
  show (pz x < pz y ∨ (pz x = pz y ∧ (oc y < oc x ∨ (oc x = oc y ∧ al (wd x) < al (wd y))))) ∨ (pz y < pz x ∨ (pz y = pz x ∧ (oc x < oc y ∨ (oc y = oc x ∧ al (wd y) < al (wd x)))))
  omega
end RK
section RL
variable {wd oc ct ki : Nat → Nat} {v k m n : Nat}
theorem rko_all (hs : SRT wd ki m) : ∀ i, i ≤ m → (∀ j, j < rkc wd oc ki v k i → ∃ t, t < i ∧ rko wd oc ki v k i j = ki t ∧ dst wd v (ki t) ≤ k) ∧ (∀ t, t < i → dst wd v (ki t) ≤ k → ∃ j, j < rkc wd oc ki v k i ∧ rko wd oc ki v k i j = ki t) ∧
    (∀ a b, a < b → b < rkc wd oc ki v k i → rkb (pzf wd v) oc wd (rko wd oc ki v k i a) (rko wd oc ki v k i b)) := by
  intro i
  induction i with
  | zero =>
    intro _
    have h0 : rkc wd oc ki v k 0 = 0 := rfl
    rw [h0]
    exact ⟨fun j hj => by omega, fun t ht => by omega, fun a b _ hb => by omega⟩
  | succ i ih =>
    intro hi
    obtain ⟨r1, r2, r3⟩ := ih (by omega)
    by_cases hd : dst wd v (ki i) ≤ k
    · rw [rkc_s hd, rko_s hd]
      have hp := cnt_le (fun j => decide (rkb (pzf wd v) oc wd (rko wd oc ki v k i j) (ki i))) (rkc wd oc ki v k i)
      refine ⟨insF_all (P := fun x => ∃ t, t < i + 1 ∧ x = ki t ∧ dst wd v (ki t) ≤ k) hp (fun j hj => ?_) ⟨i, by omega, rfl, hd⟩, fun t ht htd => ?_, ?_⟩
      · obtain ⟨t, h1, h2⟩ := r1 j hj
        exact ⟨t, by omega, h2⟩
      · refine insF_sur hp ?_
        by_cases e : t = i
        · exact Or.inr (by rw [e])
        · exact Or.inl (r2 t (by omega) htd)
      · refine ins_sort (T := fun x y => rkb (pzf wd v) oc wd x y) (P := fun j => decide (rkb (pzf wd v) oc wd (rko wd oc ki v k i j) (ki i))) (fun j hj => decide_eq_true_iff) r3 (fun a b c => rkb_trans a b c) (fun j hj => ?_)
        obtain ⟨t, h1, h2, -⟩ := r1 j hj
        rw [h2]
        exact rkb_tot _ _ (hs t i h1 (by omega))
    · rw [rkc_k hd, rko_k hd]
      refine ⟨fun j hj => ?_, fun t ht htd => ?_, r3⟩
      · obtain ⟨t, h1, h2⟩ := r1 j hj
        exact ⟨t, by omega, h2⟩
      · refine r2 t ?_ htd
        have : t ≠ i := fun e => hd (e ▸ htd)
        omega
theorem srt_inj (hs : SRT wd ki m) : ∀ i j, i < m → j < m → ki i = ki j → i = j :=
  en_inj (T := fun x y => al (wd x) < al (wd y)) hs (fun x y h => by omega)
theorem knn_eq (hK : KN ct ki m n) (hs : SRT wd ki m) : knn ct n = m :=
  cnt_bij (fun j hj => ⟨(hK.1 j hj).1, decide_eq_true (hK.1 j hj).2⟩) (srt_inj hs) (fun i hi h => hK.2 i hi (of_decide_eq_true h))
theorem kw_at (hK : KN ct ki m n) (hs : SRT wd ki m) {p : Nat} (hp : p < m) : lwd (fun k => decide (0 < ct k ∧ cnt (fun j => decide (0 < ct j ∧ al (wd j) < al (wd k))) n = p)) wd n = wd (ki p) :=
  en_lwd (SB := fun k => decide (0 < ct k)) (T := fun x y => al (wd x) < al (wd y)) (PB := fun j k => decide (0 < ct j ∧ al (wd j) < al (wd k))) (fun j hj => ⟨(hK.1 j hj).1, decide_eq_true (hK.1 j hj).2⟩) (fun i hi h => hK.2 i hi (of_decide_eq_true h)) hs (fun x y h => by omega)
    (fun j k => by rw [decide_eq_true_eq, decide_eq_true_eq]) hp (fun k => by rw [decide_eq_true_eq, decide_eq_true_eq])
theorem rko_in (hK : KN ct ki m n) (hs : SRT wd ki m) : ∀ j, j < rkc wd ct ki v k m → rko wd ct ki v k m j < n ∧ decide (cor wd ct v k (rko wd ct ki v k m j)) = true := by
  intro j hj
  obtain ⟨t, h1, h2, h3⟩ := (rko_all (oc := ct) (v := v) (k := k) hs m (Nat.le_refl _)).1 j hj
  rw [h2]
  exact ⟨(hK.1 t h1).1, decide_eq_true ⟨(hK.1 t h1).2, h3⟩⟩
theorem rko_on (hK : KN ct ki m n) (hs : SRT wd ki m) : ∀ i, i < n → decide (cor wd ct v k i) = true → ∃ j, j < rkc wd ct ki v k m ∧ rko wd ct ki v k m j = i := by
  intro i hi h
  have h := of_decide_eq_true h
  obtain ⟨t, h1, h2⟩ := hK.2 i hi h.1
  obtain ⟨j, h3, h4⟩ := (rko_all (oc := ct) (v := v) (k := k) hs m (Nat.le_refl _)).2.1 t h1 (by rw [h2]; exact h.2)
  exact ⟨j, h3, h4.trans h2⟩
theorem corr_cnt (hK : KN ct ki m n) (hs : SRT wd ki m) : ccn wd ct v k n = rkc wd ct ki v k m :=
  en_cnt (SB := fun i => decide (cor wd ct v k i)) (T := fun x y => rkb (pzf wd v) ct wd x y) (rko_in hK hs) (rko_on hK hs) (rko_all (oc := ct) (v := v) (k := k) hs m (Nat.le_refl _)).2.2 (fun x y => rkb_asym x y)
theorem corr_at (hK : KN ct ki m n) (hs : SRT wd ki m) {p : Nat} (hp : p < rkc wd ct ki v k m) : lwd (fun i => decide (cor wd ct v k i ∧ cnt (fun j => decide (cor wd ct v k j ∧ rkb (pzf wd v) ct wd j i)) n = p)) wd n = wd (rko wd ct ki v k m p) :=
  en_lwd (SB := fun i => decide (cor wd ct v k i)) (T := fun x y => rkb (pzf wd v) ct wd x y) (PB := fun j i => decide (cor wd ct v k j ∧ rkb (pzf wd v) ct wd j i)) (rko_in hK hs) (rko_on hK hs) (rko_all (oc := ct) (v := v) (k := k) hs m (Nat.le_refl _)).2.2 (fun x y => rkb_asym x y)
    (fun j i => by rw [decide_eq_true_eq, decide_eq_true_eq]) hp (fun i => by rw [decide_eq_true_eq, decide_eq_true_eq])
theorem map_nd {l : List Nat} {f : Nat → Nat} (h : l.Nodup) (hf : ∀ a b, a ∈ l → b ∈ l → f a = f b → a = b) : (l.map f).Nodup :=
  List.pairwise_map.mpr (List.Pairwise.imp_of_mem (fun ha hb hne e => hne (hf _ _ ha hb e)) h)
/-- counting known words, by their places or by their numbers -/
theorem cnt_sub (hK : KN ct ki m n) (hs : SRT wd ki m) {Q S : Nat → Bool} (hS : ∀ i, i < n → (S i = true ↔ (0 < ct i ∧ Q i = true))) : cnt (fun j => Q (ki j)) m = cnt S n := by
  have h := q_nd_eq (l1 := (cnl (fun j => Q (ki j)) m).map ki) (l2 := cnl S n) (map_nd (cnl_nd _ m) (fun a b ha hb e => srt_inj hs a b ((cnl_mem m).mp ha).1 ((cnl_mem m).mp hb).1 e)) (cnl_nd S n) (fun x => by
    rw [List.mem_map, cnl_mem]
    constructor
    · rintro ⟨j, h1, h2⟩
      obtain ⟨h3, h4⟩ := (cnl_mem m).mp h1
      rw [← h2]
      exact ⟨(hK.1 j h3).1, (hS _ (hK.1 j h3).1).mpr ⟨(hK.1 j h3).2, h4⟩⟩
    · rintro ⟨h1, h2⟩
      obtain ⟨h3, h4⟩ := (hS x h1).mp h2
      obtain ⟨j, h5, h6⟩ := hK.2 x h1 h3
      exact ⟨j, (cnl_mem m).mpr ⟨h5, by rw [h6]; exact h4⟩, h6⟩)
  rw [List.length_map, cnl_len, cnl_len] at h
  exact h
theorem kn_le (hK : KN ct ki m n) (hs : SRT wd ki m) : m ≤ n := by
  have h := q_nd_le (l1 := rg ki m) (l2 := List.range n) (rg_nd (srt_inj hs)) (fun x hx => by
    obtain ⟨j, hj, e⟩ := rg_mem.mp hx
    rw [← e]; exact List.mem_range.mpr (hK.1 j hj).1)
  rw [rg_len, List.length_range] at h
  exact h
theorem kn_lt (hK : KN ct ki m n) (hs : SRT wd ki m) {i : Nat} (hi : i < n) (h0 : ct i = 0) : m < n := by
  have hni : i ∉ rg ki m := fun hx => by
    obtain ⟨j, hj, e⟩ := rg_mem.mp hx
    have := (hK.1 j hj).2
    rw [e] at this; omega
  have h := q_nd_le (l1 := rg ki m ++ [i]) (l2 := List.range n) (q_nd_app (rg_nd (srt_inj hs)) hni) (fun x hx => by
    rcases q_mem_app.mp hx with h1 | h1
    · obtain ⟨j, hj, e⟩ := rg_mem.mp h1
      rw [← e]; exact List.mem_range.mpr (hK.1 j hj).1
    · rw [h1]; exact List.mem_range.mpr hi)
  rw [List.length_append, rg_len, List.length_range] at h
  exact h
end RL
theorem al_inj {a b : Nat} (ha : gw a) (hb : gw b) (h : al a = al b) : a = b := by
  have key : ∀ {a b : Nat}, gw a → gw b → al a = al b → wl a ≤ wl b → a = b := by
    intro a b ha hb h hw
    by_cases e : wl a = wl b
    · have h1 := al_pre (n := a) (k := wl a) (gw_wl ha) (Nat.le_refl _)
      have h2 := al_pre (n := b) (k := wl b) (gw_wl hb) (Nat.le_refl _)
      rw [beg_all] at h1 h2
      rw [← h1, ← h2, h, e]
    · have h1 := al_pre2 (n := a) (k := wl b) (gw_wl hb) (by omega)
      rw [h, al_pre (gw_wl hb) (Nat.le_refl _)] at h1
      exact absurd h1 (beg_mod hb (gw_pos hb) (Nat.le_refl _))
  rcases Nat.le_total (wl a) (wl b) with h1 | h1
  · exact key ha hb h h1
  · exact (key hb ha h.symm h1).symm
