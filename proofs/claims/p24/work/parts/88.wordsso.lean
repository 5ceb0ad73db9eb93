/-! the words in their order, the nodes that they make, the parents -/
def bfr (wd ki : Nat → Nat) : Nat → Nat
  | 0 => 0
  | j + 1 => wd (ki j)
def alb (wd ki : Nat → Nat) : Nat → Nat
  | 0 => 0
  | j + 1 => al (wd (ki j))
theorem alb_s {wd ki : Nat → Nat} {j : Nat} (h : 0 < j) : alb wd ki j = al (wd (ki (j - 1))) := by
  obtain ⟨i, rfl⟩ : ∃ i, j = i + 1 := ⟨j - 1, by omega⟩
  rfl
theorem al_top {w c : Nat} (h : wl w + c ≤ 10) : w * 32 ^ c < 2 ^ 50 := by
  have h1 := wl_lt w
  have h2 : w * 32 ^ c < 32 ^ wl w * 32 ^ c := Nat.mul_lt_mul_of_pos_right h1 (Nat.pow_pos (by decide))
  rw [← Nat.pow_add] at h2
  have h3 : 32 ^ (wl w + c) ≤ 32 ^ 10 := Nat.pow_le_pow_right (by decide) h
  have e : (32 : Nat) ^ 10 = 2 ^ 50 := by decide
  omega
theorem al_more {w c : Nat} (h : gw w) (h2 : w * 32 ^ c < 2 ^ 45) : wl w + c < 10 := by
  refine Nat.lt_of_not_le (fun h9 => ?_)
  have h1 := wl_ge h.1
  have h3 := gw_pos h
  have h4 : 32 ^ (wl w - 1) * 32 ^ c ≤ w * 32 ^ c := Nat.mul_le_mul_right _ h1
  rw [← Nat.pow_add] at h4
  have h5 : 32 ^ 9 ≤ 32 ^ (wl w - 1 + c) := Nat.pow_le_pow_right (by decide) (by omega)
  have e : (32 : Nat) ^ 9 = 2 ^ 45 := by decide
  omega
theorem q_m32 {w c : Nat} : lN (w * 32 ^ c) * lN 32 = lN (w * 32 ^ (c + 1)) := by rw [lN_mul, Nat.mul_assoc, ← Nat.pow_succ]
def bfo (wd ki : Nat → Nat) (j c : Nat) : Prop := 0 < j → gw (bfr wd ki j) ∧ wl (bfr wd ki j) + c ≤ 10
theorem bfo_0 {wd ki : Nat → Nat} {m j : Nat} (hg : ∀ i, i < m → gw (wd (ki i))) (hj : j < m) : bfo wd ki j 0 := fun h => by
  obtain ⟨i, rfl⟩ : ∃ i, j = i + 1 := ⟨j - 1, by omega⟩
  exact ⟨hg i (by omega), gw_wl (hg i (by omega))⟩
theorem bfo_50 {wd ki : Nat → Nat} {j c : Nat} (h : bfo wd ki j c) : bfr wd ki j * 32 ^ c < 2 ^ 50 := by
  rcases Nat.eq_zero_or_pos j with h0 | h0
  · rw [h0]; show 0 * _ < _; rw [Nat.zero_mul]; decide
  · exact al_top (h h0).2
theorem bfo_s {wd ki : Nat → Nat} {j c : Nat} (h : bfo wd ki j c) (h2 : bfr wd ki j * 32 ^ c < 2 ^ 45) : bfo wd ki j (c + 1) := fun h0 => by
  have h1 := h h0
  have h3 := al_more h1.1 h2
  exact ⟨h1.1, by omega⟩
theorem alb_z {wd ki : Nat → Nat} {j c : Nat} (h : bfo wd ki j c) (hz : bfr wd ki j * 32 ^ c = 0 ∨ 2 ^ 63 ≤ bfr wd ki j * 32 ^ c) : alb wd ki j = bfr wd ki j * 32 ^ c := by
  rcases Nat.eq_zero_or_pos j with h0 | h0
  · rw [h0]; show 0 = 0 * _; rw [Nat.zero_mul]
  · exfalso
    have h1 := h h0
    have h2 := bfo_50 h
    have h3 : 0 < bfr wd ki j * 32 ^ c := Nat.mul_pos h1.1.1 (Nat.pow_pos (by decide))
    omega
theorem alb_e {wd ki : Nat → Nat} {j c : Nat} (h : bfo wd ki j c) (h2 : 2 ^ 45 ≤ bfr wd ki j * 32 ^ c) : alb wd ki j = bfr wd ki j * 32 ^ c := by
  rcases Nat.eq_zero_or_pos j with h0 | h0
  · exfalso
    rw [h0] at h2
    have : bfr wd ki 0 * 32 ^ c = 0 := Nat.zero_mul _
    omega
  · have h1 := h h0
    obtain ⟨i, rfl⟩ : ∃ i, j = i + 1 := ⟨j - 1, by omega⟩
    exact (al_end h1.1 h1.2 h2).symm
theorem alb_50 {wd ki : Nat → Nat} {m j : Nat} (hg : ∀ i, i < m → gw (wd (ki i))) (hj : j < m) : alb wd ki j < 2 ^ 50 := by
  rcases Nat.eq_zero_or_pos j with h0 | h0
  · rw [h0]; show 0 < _; decide
  · rw [alb_s h0]; exact al_lt (gw_wl (hg _ (by omega)))
/-- letters of both that are the same, counted from the left -/
def smi (wd ki : Nat → Nat) (j s : Nat) : Prop := s ≤ 10 ∧ (j = 0 → s = 0) ∧ (0 < j → bga (wd (ki j)) (wd (ki (j - 1))) s)
theorem smi_0 {wd ki : Nat → Nat} {m j : Nat} (hg : ∀ i, i < m → gw (wd (ki i))) (hj : j < m) : smi wd ki j 0 :=
  ⟨by omega, fun _ => rfl, fun _ => bga_0 (gw_wl (hg j hj)) (gw_wl (hg (j - 1) (by omega)))⟩
theorem alb_pos {wd ki : Nat → Nat} {j : Nat} (h : 0 < alb wd ki j) : 0 < j := by
  rcases Nat.eq_zero_or_pos j with h0 | h0
  · rw [h0] at h; exact absurd h (Nat.lt_irrefl 0)
  · exact h0
theorem smi_s {wd ki : Nat → Nat} {j s : Nat} (h : smi wd ki j s) (hs : s < 10) (ha : 0 < alb wd ki j) (e : al (wd (ki j)) / 32 ^ (9 - s) = alb wd ki j / 32 ^ (9 - s)) : smi wd ki j (s + 1) := by
  have h0 := alb_pos ha
  refine ⟨by omega, fun h9 => by omega, fun _ => ?_⟩
  unfold bga
  rw [show 10 - (s + 1) = 9 - s by omega, ← alb_s h0]; exact e
theorem smi_e {wd ki : Nat → Nat} {m j s : Nat} (hg : ∀ i, i < m → gw (wd (ki i))) (hj : j < m) (h : smi wd ki j s) (he : 10 ≤ s ∨ (alb wd ki j = 0 ∨ 2 ^ 63 ≤ alb wd ki j) ∨ ¬ al (wd (ki j)) / 32 ^ (9 - s) = alb wd ki j / 32 ^ (9 - s)) : lpa wd ki j = min s (wl (wd (ki j))) := by
  rcases Nat.eq_zero_or_pos j with h0 | h0
  · rw [h.2.1 h0, h0]
    show (0 : Nat) = _
    omega
  · refine lpa_bga hg hj h0 h.1 (h.2.2 h0) ?_
    have e1 := alb_s (wd := wd) (ki := ki) h0
    rcases he with h1 | h1 | h1
    · exact Or.inl (by have := h.1; omega)
    · exfalso
      rw [e1] at h1
      have h2 := al_ge (hg (j - 1) (by omega))
      have h3 := al_lt (gw_wl (hg (j - 1) (by omega)))
      omega
    · by_cases h2 : s = 10
      · exact Or.inl h2
      · refine Or.inr (fun h3 => h1 ?_)
        unfold bga at h3
        have := h.1
        rw [show 10 - (s + 1) = 9 - s by omega, ← e1] at h3
        exact h3
theorem q_lshr1 {r : Nat} (h : r < 2 ^ 63) : lN r >>> ((nI 5).toInt64 &&& 63) = lN (r / 32) := q_lshr (k := 5) h (by decide)
theorem lnn_n {wd : Nat → Nat} {o : Option Nat} (h : o = none) : lnn wd o = (-1) := by rw [h]; rfl
theorem lnn_s {wd : Nat → Nat} {o : Option Nat} {q : Nat} (h : o = some q) : lnn wd o = lN (wd q) := by rw [h]; rfl

set_option maxHeartbeats 4000000 in
set_option maxRecDepth 100000 in
/-- areWordsSo -/
theorem c_L_areWordsSo (l : Launch) (D : va_G) (sz : Nat) (xo : Nat) (gg : Nat) (gr : Nat) (ce : Nat) (tr : Nat) (sh : Nat) (ar : Nat) (ti : Nat) (n1 : Nat) (l1 : Nat) (s2 : Nat) (a2 : Nat) (s3 : Nat) (a3 : Nat) (n2 : Nat) (l2 : Nat) (cG : ClassId) (fc : Nat → Int32) (cS : ClassId) (f : Nat → Option Nat) (cJ1 : ClassId) (fN : Nat → Int64) (z1 : Int32) (cS2 : ClassId) (fk : Nat → Option Nat) (m : Nat) (ki : Nat → Nat) (cS3 : ClassId) (fr : Nat → Option Nat) (z3 : Int32) (cJ2 : ClassId) (fs : Nat → Int64) (z2 : Int32) (ea : Nat → Nat) (wa : Nat → Nat) (pf : Nat → Option Nat) (cn : Nat → Nat) (dp : Nat → Nat) (oc : Nat → Nat) (ic : Nat → Int32) (lf : Nat → Int32) (pt : Nat → Int32) (wd : Nat → Nat) (n : Nat) (pi : Nat → Option Nat) (hst : l.stackTraces = false) (hnd : (([xo, gg, gr, ce, tr, sh, ar, ti, n1, l1, s2, a2, s3, a3, n2, l2] ++ (rg ea n ++ rg wa n)) ++ []).Nodup) (hm : m ≤ 40) (hf : ∀ j, j < m → fk j = some (ea (ki j))) (hki : ∀ j, j < m → ki j < n) (hfe : ∀ j, j < n → f j = some (ea j)) (hn40 : n ≤ 40) (hg : ∀ k, k < n → gw (wd k)) (hwi : ∀ i j, i < n → j < n → wd i = wd j → i = j) (hob : ∀ k, k < n → oc k ≤ 1000000) (hpi : ∀ k, k < n → pf k = (pi k).map ea) (hpn : ∀ k i, k < n → pi k = some i → i < k) (hmn : m ≤ n) (hkp : ∀ j, j < m → 0 < oc (ki j)) (hsr : ∀ i j, i < j → j < m → al (wd (ki i)) < al (wd (ki j))) (hdp : ∀ k, k < n → (pi k = none → dp k = 0) ∧ ∀ q, pi k = some q → dp k = dp q + 1) (hdb : ∀ k, k < n → dp k ≤ 40) : Met l yL_areWordsSo wsL_areWordsSo { frames := 8, cells := 648, slots := 3888, locals := 127 } (va_Pc [.ref xo] (qWx D sz ([]) ([(xo, .inr (8, [.ref gg, .ref tr, .ref ti, .ref s2, .ref s3, .ref n2])), (gg, .inr (1, [.ref gr])), (gr, .inr (2, [.ref ce])), (ce, .inl (cG, 121, .inl fc)), (tr, .inr (5, [.ref sh])), (sh, .inr (4, [.ref ar, .int (nI n)])), (ar, .inl (cS, 40, .inr (.inr (.inr (.inr f))))), (ti, .inr (6, [.ref n1])), (n1, .inr (3, [.ref l1, .int z1])), (l1, .inl (cJ1, 401, .inr (.inl fN))), (s2, .inr (4, [.ref a2, .int (nI m)])), (a2, .inl (cS2, 40, .inr (.inr (.inr (.inr fk))))), (s3, .inr (4, [.ref a3, .int z3])), (a3, .inl (cS3, 40, .inr (.inr (.inr (.inr fr))))), (n2, .inr (3, [.ref l2, .int z2])), (l2, .inl (cJ2, 56, .inr (.inl fs)))] ++ (EW ea wa pf cn dp oc ic lf pt n ++ WW wa wd n)) [(cG, .int), (cS, .object "FuzzyFens$Entry"), (cJ1, .long), (cS2, .object "FuzzyFens$Entry"), (cS3, .object "FuzzyFens$Entry"), (cJ2, .long)])) (va_Qi (fun (rv : Int32) (uv : (Nat → Int32)) => rv = nI 1) (fun (uv : (Nat → Int32)) (tv : State) => va_P D vwCl ([(xo, .inr (8, [.ref gg, .ref tr, .ref ti, .ref s2, .ref s3, .ref n2])), (gg, .inr (1, [.ref gr])), (gr, .inr (2, [.ref ce])), (ce, .inl (cG, 121, .inl uv)), (tr, .inr (5, [.ref sh])), (sh, .inr (4, [.ref ar, .int (nI n)])), (ar, .inl (cS, 40, .inr (.inr (.inr (.inr f))))), (ti, .inr (6, [.ref n1])), (n1, .inr (3, [.ref l1, .int z1])), (l1, .inl (cJ1, 401, .inr (.inl fN))), (s2, .inr (4, [.ref a2, .int (nI m)])), (a2, .inl (cS2, 40, .inr (.inr (.inr (.inr fk))))), (s3, .inr (4, [.ref a3, .int z3])), (a3, .inl (cS3, 40, .inr (.inr (.inr (.inr fr))))), (n2, .inr (3, [.ref l2, .int z2])), (l2, .inl (cJ2, 56, .inr (.inl fs)))] ++ (EW ea wa pf cn dp oc ic lf pt n ++ WW wa wd n)) tv.heap) (va_A ([(xo, .inr (8, [.ref gg, .ref tr, .ref ti, .ref s2, .ref s3, .ref n2])), (gg, .inr (1, [.ref gr])), (gr, .inr (2, [.ref ce])), (ce, .inl (cG, 121, .inl fc)), (tr, .inr (5, [.ref sh])), (sh, .inr (4, [.ref ar, .int (nI n)])), (ar, .inl (cS, 40, .inr (.inr (.inr (.inr f))))), (ti, .inr (6, [.ref n1])), (n1, .inr (3, [.ref l1, .int z1])), (l1, .inl (cJ1, 401, .inr (.inl fN))), (s2, .inr (4, [.ref a2, .int (nI m)])), (a2, .inl (cS2, 40, .inr (.inr (.inr (.inr fk))))), (s3, .inr (4, [.ref a3, .int z3])), (a3, .inl (cS3, 40, .inr (.inr (.inr (.inr fr))))), (n2, .inr (3, [.ref l2, .int z2])), (l2, .inl (cJ2, 56, .inr (.inl fs)))] ++ (EW ea wa pf cn dp oc ic lf pt n ++ WW wa wd n)) sz)) 648 3888 (va_A ([(xo, .inr (8, [.ref gg, .ref tr, .ref ti, .ref s2, .ref s3, .ref n2])), (gg, .inr (1, [.ref gr])), (gr, .inr (2, [.ref ce])), (ce, .inl (cG, 121, .inl fc)), (tr, .inr (5, [.ref sh])), (sh, .inr (4, [.ref ar, .int (nI n)])), (ar, .inl (cS, 40, .inr (.inr (.inr (.inr f))))), (ti, .inr (6, [.ref n1])), (n1, .inr (3, [.ref l1, .int z1])), (l1, .inl (cJ1, 401, .inr (.inl fN))), (s2, .inr (4, [.ref a2, .int (nI m)])), (a2, .inl (cS2, 40, .inr (.inr (.inr (.inr fk))))), (s3, .inr (4, [.ref a3, .int z3])), (a3, .inl (cS3, 40, .inr (.inr (.inr (.inr fr))))), (n2, .inr (3, [.ref l2, .int z2])), (l2, .inl (cJ2, 56, .inr (.inl fs)))] ++ (EW ea wa pf cn dp oc ic lf pt n ++ WW wa wd n)) sz) := by
  refine Met.ofW (cc := cL_areWordsSo) (maxL := 15) (ret := (some .boolean)) (by decide) rfl ?_
  intro pM eM s mi9 argsM belowM methM cM sM B hml hv
  obtain ⟨rfl, hsz, hR0, hP, hK, hNw, hZ, hXt⟩ := hv
  have hx := B.exec
  have hb := B.bytes
  have hr := B.returns
  have hts := atoms_spec (ws := wsL_areWordsSo) B.pre
  have hown : s.vm.findClass RL = some mi9.cls := findClass_of_methodNamed B.named
  have hlocks := B.notSynchronized
  subst hsz
  have hna := q_na (RW := ([(xo, .inr (8, [.ref gg, .ref tr, .ref ti, .ref s2, .ref s3, .ref n2])), (gg, .inr (1, [.ref gr])), (gr, .inr (2, [.ref ce])), (ce, .inl (cG, 121, .inl fc)), (tr, .inr (5, [.ref sh])), (sh, .inr (4, [.ref ar, .int (nI n)])), (ar, .inl (cS, 40, .inr (.inr (.inr (.inr f))))), (ti, .inr (6, [.ref n1])), (n1, .inr (3, [.ref l1, .int z1])), (l1, .inl (cJ1, 401, .inr (.inl fN))), (s2, .inr (4, [.ref a2, .int (nI m)])), (a2, .inl (cS2, 40, .inr (.inr (.inr (.inr fk))))), (s3, .inr (4, [.ref a3, .int z3])), (a3, .inl (cS3, 40, .inr (.inr (.inr (.inr fr))))), (n2, .inr (3, [.ref l2, .int z2])), (l2, .inl (cJ2, 56, .inr (.inl fs)))] ++ (EW ea wa pf cn dp oc ic lf pt n ++ WW wa wd n))) (RO := []) hnd (by rw [List.map_append, List.map_append, EW_fst, WW_fst]; rfl) rfl hR0
  have hD := q_D (RW := ([(xo, .inr (8, [.ref gg, .ref tr, .ref ti, .ref s2, .ref s3, .ref n2])), (gg, .inr (1, [.ref gr])), (gr, .inr (2, [.ref ce])), (ce, .inl (cG, 121, .inl fc)), (tr, .inr (5, [.ref sh])), (sh, .inr (4, [.ref ar, .int (nI n)])), (ar, .inl (cS, 40, .inr (.inr (.inr (.inr f))))), (ti, .inr (6, [.ref n1])), (n1, .inr (3, [.ref l1, .int z1])), (l1, .inl (cJ1, 401, .inr (.inl fN))), (s2, .inr (4, [.ref a2, .int (nI m)])), (a2, .inl (cS2, 40, .inr (.inr (.inr (.inr fk))))), (s3, .inr (4, [.ref a3, .int z3])), (a3, .inl (cS3, 40, .inr (.inr (.inr (.inr fr))))), (n2, .inr (3, [.ref l2, .int z2])), (l2, .inl (cJ2, 56, .inr (.inl fs)))] ++ (EW ea wa pf cn dp oc ic lf pt n ++ WW wa wd n))) (sz := s.heap.size) hnd (by rw [List.map_append, List.map_append, EW_fst, WW_fst]; rfl)
  have hnR : (([] : va_W).map (·.1)).Nodup := by rw [show ([] : va_W).map (·.1) = [] from rfl]; exact (List.nodup_append.mp hnd).2.1
  have hA : ∀ q : Nat, s.heap.size ≤ q → va_A ([(xo, .inr (8, [.ref gg, .ref tr, .ref ti, .ref s2, .ref s3, .ref n2])), (gg, .inr (1, [.ref gr])), (gr, .inr (2, [.ref ce])), (ce, .inl (cG, 121, .inl fc)), (tr, .inr (5, [.ref sh])), (sh, .inr (4, [.ref ar, .int (nI n)])), (ar, .inl (cS, 40, .inr (.inr (.inr (.inr f))))), (ti, .inr (6, [.ref n1])), (n1, .inr (3, [.ref l1, .int z1])), (l1, .inl (cJ1, 401, .inr (.inl fN))), (s2, .inr (4, [.ref a2, .int (nI m)])), (a2, .inl (cS2, 40, .inr (.inr (.inr (.inr fk))))), (s3, .inr (4, [.ref a3, .int z3])), (a3, .inl (cS3, 40, .inr (.inr (.inr (.inr fr))))), (n2, .inr (3, [.ref l2, .int z2])), (l2, .inl (cJ2, 56, .inr (.inl fs)))] ++ (EW ea wa pf cn dp oc ic lf pt n ++ WW wa wd n)) s.heap.size q := fun q h => Or.inr h
  generalize hAe : va_A ([(xo, .inr (8, [.ref gg, .ref tr, .ref ti, .ref s2, .ref s3, .ref n2])), (gg, .inr (1, [.ref gr])), (gr, .inr (2, [.ref ce])), (ce, .inl (cG, 121, .inl fc)), (tr, .inr (5, [.ref sh])), (sh, .inr (4, [.ref ar, .int (nI n)])), (ar, .inl (cS, 40, .inr (.inr (.inr (.inr f))))), (ti, .inr (6, [.ref n1])), (n1, .inr (3, [.ref l1, .int z1])), (l1, .inl (cJ1, 401, .inr (.inl fN))), (s2, .inr (4, [.ref a2, .int (nI m)])), (a2, .inl (cS2, 40, .inr (.inr (.inr (.inr fk))))), (s3, .inr (4, [.ref a3, .int z3])), (a3, .inl (cS3, 40, .inr (.inr (.inr (.inr fr))))), (n2, .inr (3, [.ref l2, .int z2])), (l2, .inl (cJ2, 56, .inr (.inl fs)))] ++ (EW ea wa pf cn dp oc ic lf pt n ++ WW wa wd n)) s.heap.size = A at hna hD hA hZ ⊢
  have hS : va_S A s.heap s.heap [] := va_S.rf
  have hR := hR0
  have hP : va_P D vwCl ([(xo, .inr (8, [.ref gg, .ref tr, .ref ti, .ref s2, .ref s3, .ref n2])), (gg, .inr (1, [.ref gr])), (gr, .inr (2, [.ref ce])), (ce, .inl (cG, 121, .inl fc)), (tr, .inr (5, [.ref sh])), (sh, .inr (4, [.ref ar, .int (nI n)])), (ar, .inl (cS, 40, .inr (.inr (.inr (.inr f))))), (ti, .inr (6, [.ref n1])), (n1, .inr (3, [.ref l1, .int z1])), (l1, .inl (cJ1, 401, .inr (.inl fN))), (s2, .inr (4, [.ref a2, .int (nI m)])), (a2, .inl (cS2, 40, .inr (.inr (.inr (.inr fk))))), (s3, .inr (4, [.ref a3, .int z3])), (a3, .inl (cS3, 40, .inr (.inr (.inr (.inr fr))))), (n2, .inr (3, [.ref l2, .int z2])), (l2, .inl (cJ2, 56, .inr (.inl fs)))] ++ (EW ea wa pf cn dp oc ic lf pt n ++ WW wa wd n)) s.heap := hP
  have hl := lv_entry ([.ref xo]) (n := 15) (Nat.le_of_ble_eq_true rfl)
  rw [lg_entry_eq]
  generalize (lg_sl ([.ref xo]) ++ List.replicate (15 - (lg_sl ([.ref xo])).length) Slot.unset).toArray = ls at hl ⊢
  have hl : lv_has ls 15 [(0, .ref xo)] := hl
  refine lv_iconst (v := nI 1) hx hb dL_areWordsSo_0 (by decide) ?_
  refine lv_istore_n (lv' := [(1, .int (nI 1)), (0, .ref xo)]) hx hb dL_areWordsSo_1 rfl hl (by decide) rfl (fun ls hl => ?_)
  refine lv_lconst (v := lN 0) hx hb dL_areWordsSo_2 (by decide) ?_
  refine lv_lstore_n (lv' := [(2, .long (lN 0)), (1, .int (nI 1)), (0, .ref xo)]) hx hb dL_areWordsSo_3 rfl hl (by decide) rfl (fun ls hl => ?_)
  refine lv_iconst (v := nI 0) hx hb dL_areWordsSo_4 (by decide) ?_
  refine lv_istore (lv' := [(4, .int (nI 0)), (2, .long (lN 0)), (1, .int (nI 1)), (0, .ref xo)]) hx hb dL_areWordsSo_5 hl (by decide) rfl (fun ls hl => ?_)
  refine q_loopC (fun (x : (Nat) × (Nat → Int32)) (H : Heap) (locs : List Loc) (ls : Array Slot) => match x with | (j, fc1) => (j ≤ m) ∧ va_P D vwCl ([(xo, .inr (8, [.ref gg, .ref tr, .ref ti, .ref s2, .ref s3, .ref n2])), (gg, .inr (1, [.ref gr])), (gr, .inr (2, [.ref ce])), (ce, .inl (cG, 121, .inl fc1)), (tr, .inr (5, [.ref sh])), (sh, .inr (4, [.ref ar, .int (nI n)])), (ar, .inl (cS, 40, .inr (.inr (.inr (.inr f))))), (ti, .inr (6, [.ref n1])), (n1, .inr (3, [.ref l1, .int z1])), (l1, .inl (cJ1, 401, .inr (.inl fN))), (s2, .inr (4, [.ref a2, .int (nI m)])), (a2, .inl (cS2, 40, .inr (.inr (.inr (.inr fk))))), (s3, .inr (4, [.ref a3, .int z3])), (a3, .inl (cS3, 40, .inr (.inr (.inr (.inr fr))))), (n2, .inr (3, [.ref l2, .int z2])), (l2, .inl (cJ2, 56, .inr (.inl fs)))] ++ (EW ea wa pf cn dp oc ic lf pt n ++ WW wa wd n)) H ∧ va_D A ([(xo, .inr (8, [.ref gg, .ref tr, .ref ti, .ref s2, .ref s3, .ref n2])), (gg, .inr (1, [.ref gr])), (gr, .inr (2, [.ref ce])), (ce, .inl (cG, 121, .inl fc1)), (tr, .inr (5, [.ref sh])), (sh, .inr (4, [.ref ar, .int (nI n)])), (ar, .inl (cS, 40, .inr (.inr (.inr (.inr f))))), (ti, .inr (6, [.ref n1])), (n1, .inr (3, [.ref l1, .int z1])), (l1, .inl (cJ1, 401, .inr (.inl fN))), (s2, .inr (4, [.ref a2, .int (nI m)])), (a2, .inl (cS2, 40, .inr (.inr (.inr (.inr fk))))), (s3, .inr (4, [.ref a3, .int z3])), (a3, .inl (cS3, 40, .inr (.inr (.inr (.inr fr))))), (n2, .inr (3, [.ref l2, .int z2])), (l2, .inl (cJ2, 56, .inr (.inl fs)))] ++ (EW ea wa pf cn dp oc ic lf pt n ++ WW wa wd n)) ∧ va_S A s.heap H locs ∧ lv_has ls 15 [(4, .int (nI j)), (2, .long (lN (bfr wd ki j))), (1, .int (nI (tnd wd ki j))), (0, .ref xo)]) (fun (x : (Nat) × (Nat → Int32)) => match x with | (j, fc1) => m - j) (fun (x : (Nat) × (Nat → Int32)) => match x with | (j, fc1) => 0 + 16 * (j)) (fun (x : (Nat) × (Nat → Int32)) => match x with | (j, fc1) => 0 + 96 * (j)) (0, fc) ⟨(by omega), hP, hD, hS, (lv_sub hl [0, 1, 2, 3] rfl)⟩ (by show 0 ≤ _; exact Nat.le_add_right _ _) (by show 0 ≤ _; exact Nat.le_add_right _ _) ?_
  clear hl
  clear hP hD hS
  rintro ⟨j, fc1⟩ H locs ls hI ih_7
  obtain ⟨hj, hP, hD, hS, hl⟩ := hI
  show W _ _ _ _ _ _ _ _ _ _ _ _ (0 + 16 * (j)) (0 + 96 * (j)) _ _
  have hmC_7 : j ≤ 40 := by omega
  have hcC_7 : 0 + 16 * (j) ≤ 640 := Nat.add_le_add_left (Nat.mul_le_mul_left 16 hmC_7) 0
  have hcS_7 : 0 + 96 * (j) ≤ 3840 := Nat.add_le_add_left (Nat.mul_le_mul_left 96 hmC_7) 0
  have hR := q_ro hR0 hna hS
  refine lv_iload hx hb dL_areWordsSo_7 (lv_at hl 0 rfl) ?_
  refine lv_aload_n hx hb dL_areWordsSo_9 rfl (lv_at hl 3 rfl) ?_
  refine vp_callSi (W.runV (As := []) (rest := [.int (nI j)]) ⟨hx, hb, hml, hown, hts⟩ (c_X9_words (l := l) (D := D) (xo := xo) (gg := gg) (gr := gr) (ce := ce) (tr := tr) (sh := sh) (ar := ar) (ti := ti) (n1 := n1) (l1 := l1) (s2 := s2) (a2 := a2) (s3 := s3) (a3 := a3) (n2 := n2) (l2 := l2) (m := m) ) (cwV 0 hts gL_areWordsSo_X9_words rfl rfl rfl (by decide +kernel) ⟨Nat.le_of_ble_eq_true rfl, Nat.le_of_ble_eq_true rfl⟩) ⟨qP_blind, (va_recv hK hP (ci := 8) (q0 := 0) rfl rfl), (qP_of (hP.sub (ws' := [(xo, .inr (8, [.ref gg, .ref tr, .ref ti, .ref s2, .ref s3, .ref n2])), (s2, .inr (4, [.ref a2, .int (nI m)]))]) [0, 10] rfl) (hK.sub (tys' := []) [] rfl) hNw)⟩ rfl rfl hl.1 rfl (lv_room (Nat.le_of_ble_eq_true rfl)) dL_areWordsSo_10 ⟨Nat.le_trans (Nat.add_le_add_right hcC_7 0) (Nat.le_of_ble_eq_true rfl), Nat.le_trans (Nat.add_le_add_right hcS_7 0) (Nat.le_of_ble_eq_true rfl)⟩) (fun r_1 hr_1 => ?_)
  subst hr_1
  refine q_icmp_ge (a := j) (b := m) (tgt := 278) hx hb dL_areWordsSo_13 (by decide) (by omega) (by omega) (fun c_13 => ?_) (fun c_13 => ?_)
  · skip
    refine W.widen (k := 640) (n := 3840) hcC_7 hcS_7 ?_
    refine lv_aload_n hx hb dL_areWordsSo_278 rfl (lv_at hl 3 rfl) ?_
    refine vp_callSi (W.runV (As := []) (rest := []) ⟨hx, hb, hml, hown, hts⟩ (c_X9_trieNodes (l := l) (D := D) (xo := xo) (gg := gg) (gr := gr) (ce := ce) (tr := tr) (sh := sh) (ar := ar) (ti := ti) (n1 := n1) (l1 := l1) (s2 := s2) (a2 := a2) (s3 := s3) (a3 := a3) (n2 := n2) (l2 := l2) (cS2 := cS2) (fk := fk) (m := m) (ki := ki) (ea := ea) (wa := wa) (pf := pf) (cn := cn) (dp := dp) (oc := oc) (ic := ic) (lf := lf) (pt := pt) (wd := wd) (n := n) (hm := hm) (hf := hf) (hki := hki) (hg := hg)) (cwV 0 hts gL_areWordsSo_X9_trieNodes rfl rfl rfl (by decide +kernel) ⟨Nat.le_of_ble_eq_true rfl, Nat.le_of_ble_eq_true rfl⟩) ⟨qP_blind, (va_recv hK hP (ci := 8) (q0 := 0) rfl rfl), (qP_of (va_P.app (hP.sub (ws' := [(xo, .inr (8, [.ref gg, .ref tr, .ref ti, .ref s2, .ref s3, .ref n2])), (s2, .inr (4, [.ref a2, .int (nI m)])), (a2, .inl (cS2, 40, .inr (.inr (.inr (.inr fk)))))]) [0, 10, 11] rfl) (q_right hP)) (hK.sub (tys' := [(cS2, .object "FuzzyFens$Entry")]) [3] rfl) hNw)⟩ rfl rfl hl.1 rfl (lv_room (Nat.le_of_ble_eq_true rfl)) dL_areWordsSo_279 ⟨Nat.le_of_ble_eq_true rfl, Nat.le_of_ble_eq_true rfl⟩) (fun r_2 hr_2 => ?_)
    subst hr_2
    have htm : tnd wd ki m < 2 ^ 31 := by have := tnd_le (wd := wd) (ki := ki) (m := m) (fun i hi => gw_wl (hg _ (hki i hi))); omega
    have ejm : j = m := by omega
    have htj : tnd wd ki j < 2 ^ 31 := by rw [ejm]; exact htm
    refine lv_iload_n hx hb dL_areWordsSo_282 rfl (lv_at hl 2 rfl) ?_
    refine q_icmp_ne (a := tnd wd ki m) (b := tnd wd ki j) (tgt := 310) hx hb dL_areWordsSo_283 (by decide) (by omega) (by omega) (fun c_283 => absurd c_283 (fun h9 => h9 (by rw [show j = m by omega]))) (fun c_283 => ?_)
    refine lv_aload_n hx hb dL_areWordsSo_286 rfl (lv_at hl 3 rfl) ?_
    refine vp_callSi (W.runV (As := []) (rest := []) ⟨hx, hb, hml, hown, hts⟩ (c_X9_treeNodes (l := l) (D := D) (xo := xo) (gg := gg) (gr := gr) (ce := ce) (tr := tr) (sh := sh) (ar := ar) (ti := ti) (n1 := n1) (l1 := l1) (s2 := s2) (a2 := a2) (s3 := s3) (a3 := a3) (n2 := n2) (l2 := l2) (n := n) ) (cwV 0 hts gL_areWordsSo_X9_treeNodes rfl rfl rfl (by decide +kernel) ⟨Nat.le_of_ble_eq_true rfl, Nat.le_of_ble_eq_true rfl⟩) ⟨qP_blind, (va_recv hK hP (ci := 8) (q0 := 0) rfl rfl), (qP_of (hP.sub (ws' := [(xo, .inr (8, [.ref gg, .ref tr, .ref ti, .ref s2, .ref s3, .ref n2])), (tr, .inr (5, [.ref sh])), (sh, .inr (4, [.ref ar, .int (nI n)]))]) [0, 4, 5] rfl) (hK.sub (tys' := []) [] rfl) hNw)⟩ rfl rfl hl.1 rfl (lv_room (Nat.le_of_ble_eq_true rfl)) dL_areWordsSo_287 ⟨Nat.le_of_ble_eq_true rfl, Nat.le_of_ble_eq_true rfl⟩) (fun r_3 hr_3 => ?_)
    subst hr_3
    refine lv_aload_n hx hb dL_areWordsSo_290 rfl (lv_at hl 3 rfl) ?_
    refine vp_callSi (W.runV (As := []) (rest := [.int (nI n)]) ⟨hx, hb, hml, hown, hts⟩ (c_X9_words (l := l) (D := D) (xo := xo) (gg := gg) (gr := gr) (ce := ce) (tr := tr) (sh := sh) (ar := ar) (ti := ti) (n1 := n1) (l1 := l1) (s2 := s2) (a2 := a2) (s3 := s3) (a3 := a3) (n2 := n2) (l2 := l2) (m := m) ) (cwV 0 hts gL_areWordsSo_X9_words rfl rfl rfl (by decide +kernel) ⟨Nat.le_of_ble_eq_true rfl, Nat.le_of_ble_eq_true rfl⟩) ⟨qP_blind, (va_recv hK hP (ci := 8) (q0 := 0) rfl rfl), (qP_of (hP.sub (ws' := [(xo, .inr (8, [.ref gg, .ref tr, .ref ti, .ref s2, .ref s3, .ref n2])), (s2, .inr (4, [.ref a2, .int (nI m)]))]) [0, 10] rfl) (hK.sub (tys' := []) [] rfl) hNw)⟩ rfl rfl hl.1 rfl (lv_room (Nat.le_of_ble_eq_true rfl)) dL_areWordsSo_291 ⟨Nat.le_of_ble_eq_true rfl, Nat.le_of_ble_eq_true rfl⟩) (fun r_4 hr_4 => ?_)
    subst hr_4
    refine q_icmp_lt (a := n) (b := m) (tgt := 310) hx hb dL_areWordsSo_294 (by decide) (by omega) (by omega) (fun c_294 => False.elim (by omega)) (fun c_294 => ?_)
    refine lv_aload_n hx hb dL_areWordsSo_297 rfl (lv_at hl 3 rfl) ?_
    refine vp_callSi (W.runV (As := []) (rest := []) ⟨hx, hb, hml, hown, hts⟩ (c_X9_treeNodes (l := l) (D := D) (xo := xo) (gg := gg) (gr := gr) (ce := ce) (tr := tr) (sh := sh) (ar := ar) (ti := ti) (n1 := n1) (l1 := l1) (s2 := s2) (a2 := a2) (s3 := s3) (a3 := a3) (n2 := n2) (l2 := l2) (n := n) ) (cwV 0 hts gL_areWordsSo_X9_treeNodes rfl rfl rfl (by decide +kernel) ⟨Nat.le_of_ble_eq_true rfl, Nat.le_of_ble_eq_true rfl⟩) ⟨qP_blind, (va_recv hK hP (ci := 8) (q0 := 0) rfl rfl), (qP_of (hP.sub (ws' := [(xo, .inr (8, [.ref gg, .ref tr, .ref ti, .ref s2, .ref s3, .ref n2])), (tr, .inr (5, [.ref sh])), (sh, .inr (4, [.ref ar, .int (nI n)]))]) [0, 4, 5] rfl) (hK.sub (tys' := []) [] rfl) hNw)⟩ rfl rfl hl.1 rfl (lv_room (Nat.le_of_ble_eq_true rfl)) dL_areWordsSo_298 ⟨Nat.le_of_ble_eq_true rfl, Nat.le_of_ble_eq_true rfl⟩) (fun r_5 hr_5 => ?_)
    subst hr_5
    refine lv_bipush (v := nI 40) hx hb dL_areWordsSo_301 (by decide) ?_
    refine q_icmp_gt (a := n) (b := 40) (tgt := 310) hx hb dL_areWordsSo_303 (by decide) (by omega) (by omega) (fun c_303 => False.elim (by omega)) (fun c_303 => ?_)
    refine lv_iconst (v := nI 1) hx hb dL_areWordsSo_306 (by decide) ?_
    refine lv_goto (tgt := 311) hx hb dL_areWordsSo_307 (by decide) ?_
    refine W.widen (k := 648) (n := 3888) (Nat.le_of_ble_eq_true rfl) (Nat.le_of_ble_eq_true rfl) ?_
    exact W.zret (v := nI 1) hx hb hr (by decide) (fun t9 ht hW => ⟨⟨nI 1, fc1, rfl, rfl, by show va_P D vwCl _ t9.heap; rw [ht]; exact hP⟩, hS.F ht⟩) hS.2.2 dL_areWordsSo_311
  · skip
    have hkj := hki j (by omega)
    have hgj := hg _ hkj
    have h50 := gw_lt hgj
    have haj : wd (ki j) < 2 ^ 64 := by omega
    have hoj := hob _ hkj
    have hgm : ∀ i, i < m → gw (wd (ki i)) := fun i hi => hg _ (hki i hi)
    refine lv_aload_n hx hb dL_areWordsSo_16 rfl (lv_at hl 3 rfl) ?_
    refine lv_iload hx hb dL_areWordsSo_17 (lv_at hl 0 rfl) ?_
    have hF := va_free (wc := []) hD hS hA [] rfl
    refine vx_calll (vx_runV (As := [.int (nI j)]) (rest := []) ⟨hx, hb, hml, hown, hts⟩ (c_X9_wordAt (l := l) (D := D) (xo := xo) (gg := gg) (gr := gr) (ce := ce) (tr := tr) (sh := sh) (ar := ar) (ti := ti) (n1 := n1) (l1 := l1) (s2 := s2) (a2 := a2) (s3 := s3) (a3 := a3) (n2 := n2) (l2 := l2) (cS2 := cS2) (fk := fk) (m := m) (ki := ki) (ea := ea) (wa := wa) (pf := pf) (cn := cn) (dp := dp) (oc := oc) (ic := ic) (lf := lf) (pt := pt) (wd := wd) (n := n) (x9 := nI j) (sz := H.size) (hnd := (q_ndt (q_ndsw (q_ndg (l1 := [xo, gg, gr, ce, tr, sh, ar, ti, n1, l1, s2, a2, s3, a3, n2, l2] ++ (rg ea n ++ rg wa n)) (l2 := []) hD hnR hna (by rw [List.map_append, List.map_append, EW_fst, WW_fst]; rfl) rfl)) [0, 10, 11] rfl rfl)) (hst := hst) (hm := hm) (hf := hf) (hki := hki)) (cwV 1 hts gL_areWordsSo_X9_wordAt rfl rfl rfl (by decide +kernel) ⟨Nat.le_of_ble_eq_true rfl, Nat.le_of_ble_eq_true rfl⟩) ⟨qWx_blind, (va_recv hK hP (ci := 8) (q0 := 0) rfl rfl), (qWx_of (va_P.app (hP.sub (ws' := [(xo, .inr (8, [.ref gg, .ref tr, .ref ti, .ref s2, .ref s3, .ref n2])), (s2, .inr (4, [.ref a2, .int (nI m)])), (a2, .inl (cS2, 40, .inr (.inr (.inr (.inr fk)))))]) [0, 10, 11] rfl) (q_right hP)) (q_Pof (fun _ h => absurd h List.not_mem_nil)) (hK.sub (tys' := [(cS2, .object "FuzzyFens$Entry")]) [3] rfl) hNw (qZ_at hZ hS (fun q h => hF q h)) hXt)⟩ rfl rfl hl.1 rfl (lv_room (Nat.le_of_ble_eq_true rfl)) dL_areWordsSo_19 ⟨Nat.le_trans (Nat.add_le_add_right hcC_7 1) (Nat.le_of_ble_eq_true rfl), Nat.le_trans (Nat.add_le_add_right hcS_7 6) (Nat.le_of_ble_eq_true rfl)⟩) hS (fun q _ h => hF q h) hF (fun q _ h => hF q h) (fun E9 ce9 q9 u9 t9 H9 locs9 ht9 hvm9 hpx9 hBX9 hz9 hk9 hS9 hc9 hv9 hcl9 => ?_) (fun r_6 u_10 t_9 H_7 locs_8 ht hvm hr_6 hB hz1 hk1 hS => ?_)
    · obtain ⟨hE9, hW9⟩ := hBX9
      exact False.elim (hE9.2 (q_rng (by omega) hm))
    skip
    replace hB : va_P D vwCl [] H_7 := by rw [← ht]; exact hB
    obtain ⟨hP, hD⟩ := q_join (wc := []) (w1 := []) (ws' := [(xo, .inr (8, [.ref gg, .ref tr, .ref ti, .ref s2, .ref s3, .ref n2])), (gg, .inr (1, [.ref gr])), (gr, .inr (2, [.ref ce])), (ce, .inl (cG, 121, .inl fc1)), (tr, .inr (5, [.ref sh])), (sh, .inr (4, [.ref ar, .int (nI n)])), (ar, .inl (cS, 40, .inr (.inr (.inr (.inr f))))), (ti, .inr (6, [.ref n1])), (n1, .inr (3, [.ref l1, .int z1])), (l1, .inl (cJ1, 401, .inr (.inl fN))), (s2, .inr (4, [.ref a2, .int (nI m)])), (a2, .inl (cS2, 40, .inr (.inr (.inr (.inr fk))))), (s3, .inr (4, [.ref a3, .int z3])), (a3, .inl (cS3, 40, .inr (.inr (.inr (.inr fr))))), (n2, .inr (3, [.ref l2, .int z2])), (l2, .inl (cJ2, 56, .inr (.inl fs)))] ++ (EW ea wa pf cn dp oc ic lf pt n ++ WW wa wd n)) [] hP hD rfl rfl hk1 hB rfl
    have hR := q_ro hR0 hna hS
    obtain ⟨rfl, f_r_6⟩ := hr_6
    refine q_cvl (show (lN (wd (ki (kz (nI j))))) = (lN (wd (ki j))) from (by rw [kz_nI (by omega)])) ?_
    refine lv_lstore (lv' := [(5, .long (lN (wd (ki j)))), (4, .int (nI j)), (2, .long (lN (bfr wd ki j))), (1, .int (nI (tnd wd ki j))), (0, .ref xo)]) hx hb dL_areWordsSo_22 hl (by decide) rfl (fun ls hl => ?_)
    refine lv_lload hx hb dL_areWordsSo_24 (lv_at hl 0 rfl) ?_
    refine q_cvl (show (lN (wd (ki j))) = (lN ((wd (ki j)) * (32 ^ 0))) from (by rw [Nat.pow_zero, Nat.mul_one])) ?_
    refine lv_lstore (lv' := [(7, .long (lN ((wd (ki j)) * (32 ^ 0)))), (5, .long (lN (wd (ki j)))), (4, .int (nI j)), (2, .long (lN (bfr wd ki j))), (1, .int (nI (tnd wd ki j))), (0, .ref xo)]) hx hb dL_areWordsSo_26 hl (by decide) rfl (fun ls hl => ?_)
    refine q_cut 78 (fun (x : Unit) (Hc : Heap) (Lc : List Loc) (ls : Array Slot) (st : List Value) => match x with | () => H_7 = Hc ∧ locs_8 = Lc ∧ lv_has ls 15 [(7, .long (lN (al (wd (ki j))))), (5, .long (lN (wd (ki j)))), (4, .int (nI j)), (2, .long (lN (bfr wd ki j))), (1, .int (nI (tnd wd ki j))), (0, .ref xo), (9, .long (lN (alb wd ki j)))] ∧ [] = st) ?_ ?_
    · clear hl
      rintro ⟨⟩ Hc Lc ls st hI
      obtain ⟨rfl, rfl, hl, rfl⟩ := hI
      refine lv_iconst (v := nI 0) hx hb dL_areWordsSo_78 (by decide) ?_
      have ha50 := al_lt (gw_wl hgj)
      have hb50 := alb_50 (ki := ki) hgm (show j < m by omega)
      refine q_cut 125 (fun (x : (Nat)) (Hc : Heap) (Lc : List Loc) (ls : Array Slot) (st : List Value) => match x with | s9 => (lpa wd ki j = min s9 (wl (wd (ki j)))) ∧ (s9 ≤ 10) ∧ H_7 = Hc ∧ locs_8 = Lc ∧ lv_has ls 15 [(7, .long (lN (al (wd (ki j))))), (5, .long (lN (wd (ki j)))), (4, .int (nI j)), (2, .long (lN (bfr wd ki j))), (1, .int (nI (tnd wd ki j))), (0, .ref xo), (9, .long (lN (alb wd ki j))), (11, .int (nI s9))] ∧ [] = st) ?_ ?_
      · clear hl
        rintro s9 Hc Lc ls st hI
        obtain ⟨hsw, hs9, rfl, rfl, hl, rfl⟩ := hI
        refine lv_iconst (v := nI 0) hx hb dL_areWordsSo_125 (by decide) ?_
        refine lv_istore (lv' := [(12, .int (nI 0)), (7, .long (lN (al (wd (ki j))))), (5, .long (lN (wd (ki j)))), (4, .int (nI j)), (2, .long (lN (bfr wd ki j))), (1, .int (nI (tnd wd ki j))), (0, .ref xo), (9, .long (lN (alb wd ki j))), (11, .int (nI s9))]) hx hb dL_areWordsSo_126 hl (by decide) rfl (fun ls hl => ?_)
        refine lv_lload hx hb dL_areWordsSo_128 (lv_at hl 2 rfl) ?_
        refine lv_lstore (lv' := [(13, .long (lN (wd (ki j)))), (12, .int (nI 0)), (7, .long (lN (al (wd (ki j))))), (5, .long (lN (wd (ki j)))), (4, .int (nI j)), (2, .long (lN (bfr wd ki j))), (1, .int (nI (tnd wd ki j))), (0, .ref xo), (9, .long (lN (alb wd ki j))), (11, .int (nI s9))]) hx hb dL_areWordsSo_130 hl (by decide) rfl (fun ls hl => ?_)
        refine q_loop (fun (x : (Nat) × (Nat)) (Hc : Heap) (Lc : List Loc) (ls : Array Slot) => match x with | (r, q) => (q + wl r = wl (wd (ki j))) ∧ (r < 2 ^ 50) ∧ H_7 = Hc ∧ locs_8 = Lc ∧ lv_has ls 15 [(13, .long (lN r)), (12, .int (nI q)), (7, .long (lN (al (wd (ki j))))), (5, .long (lN (wd (ki j)))), (4, .int (nI j)), (2, .long (lN (bfr wd ki j))), (1, .int (nI (tnd wd ki j))), (0, .ref xo), (9, .long (lN (alb wd ki j))), (11, .int (nI s9))]) (fun (x : (Nat) × (Nat)) => match x with | (r, q) => r) (wd (ki j), 0) ⟨(by omega), h50, rfl, rfl, (lv_sub hl [0, 1, 2, 3, 4, 5, 6, 7, 8, 9] rfl)⟩ ?_
        clear hl
        rintro ⟨r, q⟩ Hc Lc ls hI ih_132
        obtain ⟨hr9, hrb, rfl, rfl, hl⟩ := hI
        refine lv_lload hx hb dL_areWordsSo_132 (lv_at hl 0 rfl) ?_
        refine lv_lconst (v := lN 0) hx hb dL_areWordsSo_134 (by decide) ?_
        refine W.lcmp hx hb dL_areWordsSo_135 ?_
        refine q_lz_le (a := r) (tgt := 151) hx hb dL_areWordsSo_136 (by decide) (by omega) (fun c_136 => ?_) (fun c_136 => ?_)
        · skip
          have hr0 : r = 0 := by omega
          have hq : q = wl (wd (ki j)) := by rw [hr0, wl_0] at hr9; omega
          have hw10 := gw_wl hgj
          refine lv_iload_n hx hb dL_areWordsSo_151 rfl (lv_at hl 6 rfl) ?_
          refine lv_iload hx hb dL_areWordsSo_152 (lv_at hl 1 rfl) ?_
          refine q_cut 168 (fun (x : (Nat)) (Hc : Heap) (Lc : List Loc) (ls : Array Slot) (st : List Value) => match x with | t9 => (t9 = min s9 q) ∧ H_7 = Hc ∧ locs_8 = Lc ∧ lv_has ls 15 [(13, .long (lN r)), (12, .int (nI q)), (7, .long (lN (al (wd (ki j))))), (5, .long (lN (wd (ki j)))), (4, .int (nI j)), (2, .long (lN (bfr wd ki j))), (1, .int (nI (tnd wd ki j))), (0, .ref xo), (9, .long (lN (alb wd ki j))), (11, .int (nI s9))] ∧ [.int (nI t9), .int (nI q), .int (nI (tnd wd ki j))] = st) ?_ ?_
          · clear hl
            rintro t9 Hc Lc ls st hI
            obtain ⟨ht9, rfl, rfl, hl, rfl⟩ := hI
            refine q_isub (d := q - t9) hx hb dL_areWordsSo_168 (by omega) ?_
            refine q_iadd (d := tnd wd ki j + q - t9) hx hb dL_areWordsSo_169 (by omega) ?_
            refine q_cvi (show (nI (tnd wd ki j + q - t9)) = (nI (tnd wd ki (j + 1))) from (by show _ = nI (tnd wd ki j + (wl (wd (ki j)) - lpa wd ki j)); rw [hsw, ← hq, ← ht9]; congr 1; omega)) ?_
            refine lv_istore_n (lv' := [(1, .int (nI (tnd wd ki (j + 1)))), (13, .long (lN r)), (12, .int (nI q)), (7, .long (lN (al (wd (ki j))))), (5, .long (lN (wd (ki j)))), (4, .int (nI j)), (2, .long (lN (bfr wd ki j))), (0, .ref xo), (9, .long (lN (alb wd ki j))), (11, .int (nI s9))]) hx hb dL_areWordsSo_170 rfl hl (by decide) rfl (fun ls hl => ?_)
            refine lv_aload_n hx hb dL_areWordsSo_171 rfl (lv_at hl 7 rfl) ?_
            refine lv_lload hx hb dL_areWordsSo_172 (lv_at hl 4 rfl) ?_
            have hF := va_free (wc := []) hD hS hA [] rfl
            refine vx_calll (vx_runV (As := [.long (lN (wd (ki j)))]) (rest := []) ⟨hx, hb, hml, hown, hts⟩ (c_X9_treeParent (l := l) (D := D) (xo := xo) (gg := gg) (gr := gr) (ce := ce) (tr := tr) (sh := sh) (ar := ar) (ti := ti) (n1 := n1) (l1 := l1) (s2 := s2) (a2 := a2) (s3 := s3) (a3 := a3) (n2 := n2) (l2 := l2) (cS := cS) (f := f) (ea := ea) (wa := wa) (pf := pf) (cn := cn) (dp := dp) (oc := oc) (ic := ic) (lf := lf) (pt := pt) (wd := wd) (n := n) (pi := pi) (a := wd (ki j)) (sz := H_7.size) (hnd := (q_ndt (q_ndsw (q_ndg (l1 := [xo, gg, gr, ce, tr, sh, ar, ti, n1, l1, s2, a2, s3, a3, n2, l2] ++ (rg ea n ++ rg wa n)) (l2 := []) hD hnR hna (by rw [List.map_append, List.map_append, EW_fst, WW_fst]; rfl) rfl)) [0, 4, 5, 6] rfl rfl)) (hst := hst) (ha := haj) (hfe := hfe) (hn40 := hn40) (hg := hg) (hpi := hpi) (hpn := hpn)) (cwV 1 hts gL_areWordsSo_X9_treeParent rfl rfl rfl (by decide +kernel) ⟨Nat.le_of_ble_eq_true rfl, Nat.le_of_ble_eq_true rfl⟩) ⟨qWx_blind, (va_recv hK hP (ci := 8) (q0 := 0) rfl rfl), (qWx_of (va_P.app (hP.sub (ws' := [(xo, .inr (8, [.ref gg, .ref tr, .ref ti, .ref s2, .ref s3, .ref n2])), (tr, .inr (5, [.ref sh])), (sh, .inr (4, [.ref ar, .int (nI n)])), (ar, .inl (cS, 40, .inr (.inr (.inr (.inr f)))))]) [0, 4, 5, 6] rfl) (q_right hP)) (q_Pof (fun _ h => absurd h List.not_mem_nil)) (hK.sub (tys' := [(cS, .object "FuzzyFens$Entry")]) [1] rfl) hNw (qZ_at hZ hS (fun q h => hF q h)) hXt)⟩ rfl rfl hl.1 rfl (lv_room (Nat.le_of_ble_eq_true rfl)) dL_areWordsSo_174 ⟨Nat.le_trans (Nat.add_le_add_right (Nat.add_le_add_right hcC_7 1) 1) (Nat.le_of_ble_eq_true rfl), Nat.le_trans (Nat.add_le_add_right (Nat.add_le_add_right hcS_7 6) 6) (Nat.le_of_ble_eq_true rfl)⟩) hS (fun q _ h => hF q h) hF (fun q _ h => hF q h) (fun E9 ce9 q9 u9 t9 H9 locs9 ht9 hvm9 hpx9 hBX9 hz9 hk9 hS9 hc9 hv9 hcl9 => ?_) (fun r_11 u_15 t_14 H_12 locs_13 ht hvm hr_11 hB hz1 hk1 hS => ?_)
            · obtain ⟨hE9, hW9⟩ := hBX9
              exact False.elim (hE9.2 hgj)
            skip
            replace hB : va_P D vwCl [] H_12 := by rw [← ht]; exact hB
            obtain ⟨hP, hD⟩ := q_join (wc := []) (w1 := []) (ws' := [(xo, .inr (8, [.ref gg, .ref tr, .ref ti, .ref s2, .ref s3, .ref n2])), (gg, .inr (1, [.ref gr])), (gr, .inr (2, [.ref ce])), (ce, .inl (cG, 121, .inl fc1)), (tr, .inr (5, [.ref sh])), (sh, .inr (4, [.ref ar, .int (nI n)])), (ar, .inl (cS, 40, .inr (.inr (.inr (.inr f))))), (ti, .inr (6, [.ref n1])), (n1, .inr (3, [.ref l1, .int z1])), (l1, .inl (cJ1, 401, .inr (.inl fN))), (s2, .inr (4, [.ref a2, .int (nI m)])), (a2, .inl (cS2, 40, .inr (.inr (.inr (.inr fk))))), (s3, .inr (4, [.ref a3, .int z3])), (a3, .inl (cS3, 40, .inr (.inr (.inr (.inr fr))))), (n2, .inr (3, [.ref l2, .int z2])), (l2, .inl (cJ2, 56, .inr (.inl fs)))] ++ (EW ea wa pf cn dp oc ic lf pt n ++ WW wa wd n)) [] hP hD rfl rfl hk1 hB rfl
            have hR := q_ro hR0 hna hS
            obtain ⟨rfl, f_r_11⟩ := hr_11
            refine q_cvl (show (lnn wd ((ffi (fun k => decide (wd k = (wd (ki j)))) n).bind pi)) = (lnn wd (pi (ki j))) from (by rw [ffi_wd hwi hkj]; rfl)) ?_
            refine lv_lstore (lv' := [(13, .long (lnn wd (pi (ki j)))), (1, .int (nI (tnd wd ki (j + 1)))), (12, .int (nI q)), (7, .long (lN (al (wd (ki j))))), (5, .long (lN (wd (ki j)))), (4, .int (nI j)), (2, .long (lN (bfr wd ki j))), (0, .ref xo), (9, .long (lN (alb wd ki j))), (11, .int (nI s9))]) hx hb dL_areWordsSo_177 hl (by decide) rfl (fun ls hl => ?_)
            refine lv_aload_n hx hb dL_areWordsSo_179 rfl (lv_at hl 7 rfl) ?_
            refine lv_lload hx hb dL_areWordsSo_180 (lv_at hl 4 rfl) ?_
            have hF := va_free (wc := []) hD hS hA [] rfl
            refine vx_calli (vx_runV (As := [.long (lN (wd (ki j)))]) (rest := []) ⟨hx, hb, hml, hown, hts⟩ (c_X9_count (l := l) (D := D) (xo := xo) (gg := gg) (gr := gr) (ce := ce) (tr := tr) (sh := sh) (ar := ar) (ti := ti) (n1 := n1) (l1 := l1) (s2 := s2) (a2 := a2) (s3 := s3) (a3 := a3) (n2 := n2) (l2 := l2) (cS := cS) (f := f) (ea := ea) (wa := wa) (pf := pf) (cn := cn) (dp := dp) (oc := oc) (ic := ic) (lf := lf) (pt := pt) (wd := wd) (n := n) (a := wd (ki j)) (sz := H_12.size) (hnd := (q_ndt (q_ndsw (q_ndg (l1 := [xo, gg, gr, ce, tr, sh, ar, ti, n1, l1, s2, a2, s3, a3, n2, l2] ++ (rg ea n ++ rg wa n)) (l2 := []) hD hnR hna (by rw [List.map_append, List.map_append, EW_fst, WW_fst]; rfl) rfl)) [0, 4, 5, 6] rfl rfl)) (hst := hst) (ha := haj) (hfe := hfe) (hn40 := hn40) (hg := hg)) (cwV 1 hts gL_areWordsSo_X9_count rfl rfl rfl (by decide +kernel) ⟨Nat.le_of_ble_eq_true rfl, Nat.le_of_ble_eq_true rfl⟩) ⟨qWx_blind, (va_recv hK hP (ci := 8) (q0 := 0) rfl rfl), (qWx_of (va_P.app (hP.sub (ws' := [(xo, .inr (8, [.ref gg, .ref tr, .ref ti, .ref s2, .ref s3, .ref n2])), (tr, .inr (5, [.ref sh])), (sh, .inr (4, [.ref ar, .int (nI n)])), (ar, .inl (cS, 40, .inr (.inr (.inr (.inr f)))))]) [0, 4, 5, 6] rfl) (q_right hP)) (q_Pof (fun _ h => absurd h List.not_mem_nil)) (hK.sub (tys' := [(cS, .object "FuzzyFens$Entry")]) [1] rfl) hNw (qZ_at hZ hS (fun q h => hF q h)) hXt)⟩ rfl rfl hl.1 rfl (lv_room (Nat.le_of_ble_eq_true rfl)) dL_areWordsSo_182 ⟨Nat.le_trans (Nat.add_le_add_right (Nat.add_le_add_right (Nat.add_le_add_right hcC_7 1) 1) 1) (Nat.le_of_ble_eq_true rfl), Nat.le_trans (Nat.add_le_add_right (Nat.add_le_add_right (Nat.add_le_add_right hcS_7 6) 6) 6) (Nat.le_of_ble_eq_true rfl)⟩) hS (fun q _ h => hF q h) hF (fun q _ h => hF q h) (fun E9 ce9 q9 u9 t9 H9 locs9 ht9 hvm9 hpx9 hBX9 hz9 hk9 hS9 hc9 hv9 hcl9 => ?_) (fun r_16 u_20 t_19 H_17 locs_18 ht hvm hr_16 hB hz1 hk1 hS => ?_)
            · obtain ⟨hE9, hW9⟩ := hBX9
              exact False.elim (hE9.2 hgj)
            skip
            replace hB : va_P D vwCl [] H_17 := by rw [← ht]; exact hB
            obtain ⟨hP, hD⟩ := q_join (wc := []) (w1 := []) (ws' := [(xo, .inr (8, [.ref gg, .ref tr, .ref ti, .ref s2, .ref s3, .ref n2])), (gg, .inr (1, [.ref gr])), (gr, .inr (2, [.ref ce])), (ce, .inl (cG, 121, .inl fc1)), (tr, .inr (5, [.ref sh])), (sh, .inr (4, [.ref ar, .int (nI n)])), (ar, .inl (cS, 40, .inr (.inr (.inr (.inr f))))), (ti, .inr (6, [.ref n1])), (n1, .inr (3, [.ref l1, .int z1])), (l1, .inl (cJ1, 401, .inr (.inl fN))), (s2, .inr (4, [.ref a2, .int (nI m)])), (a2, .inl (cS2, 40, .inr (.inr (.inr (.inr fk))))), (s3, .inr (4, [.ref a3, .int z3])), (a3, .inl (cS3, 40, .inr (.inr (.inr (.inr fr))))), (n2, .inr (3, [.ref l2, .int z2])), (l2, .inl (cJ2, 56, .inr (.inl fs)))] ++ (EW ea wa pf cn dp oc ic lf pt n ++ WW wa wd n)) [] hP hD rfl rfl hk1 hB rfl
            have hR := q_ro hR0 hna hS
            obtain ⟨rfl, f_r_16⟩ := hr_16
            refine q_cvi (show (nI (cof (ffi (fun k => decide (wd k = (wd (ki j)))) n) oc)) = (nI (oc (ki j))) from (by rw [ffi_wd hwi hkj]; rfl)) ?_
            have h0j := hkp j (by omega)
            have htj : tnd wd ki j < 2 ^ 31 := by have := tnd_le (wd := wd) (ki := ki) (m := j) (fun i hi => gw_wl (hg _ (hki i (by omega)))); omega
            refine lv_iconst (v := nI 1) hx hb dL_areWordsSo_185 (by decide) ?_
            refine q_icmp_lt (a := oc (ki j)) (b := 1) (tgt := 267) hx hb dL_areWordsSo_186 (by decide) (by omega) (by omega) (fun c_186 => False.elim (by omega)) (fun c_186 => ?_)
            refine lv_iload hx hb dL_areWordsSo_189 (lv_at hl 5 rfl) ?_
            refine q_if_le (a := j) (tgt := 202) hx hb dL_areWordsSo_191 (by decide) (by omega) (fun c_191 => ?_) (fun c_191 => ?_)
            · skip
              refine q_opt (o := pi (ki j)) (fun e_p => ?_) (fun q7 e_p => ?_)
              · skip
                refine lv_lload hx hb dL_areWordsSo_202 (lv_at hl 0 rfl) ?_
                refine q_cvl (show (lnn wd (pi (ki j))) = ((-1)) from (lnn_n e_p)) ?_
                refine lv_lconst (v := lN 0) hx hb dL_areWordsSo_204 (by decide) ?_
                refine W.lcmp hx hb dL_areWordsSo_205 ?_
                refine q_lr_ge (tgt := 213) hx hb dL_areWordsSo_206 (by decide) (fun c_206 => ?_) (fun c_206 => ?_)
                · skip
                  exact absurd c_206 (by decide)
                · skip
                  refine lv_iconst (v := nI 1) hx hb dL_areWordsSo_209 (by decide) ?_
                  refine lv_goto (tgt := 214) hx hb dL_areWordsSo_210 (by decide) ?_
                  refine lv_aload_n hx hb dL_areWordsSo_214 rfl (lv_at hl 7 rfl) ?_
                  refine lv_lload hx hb dL_areWordsSo_215 (lv_at hl 4 rfl) ?_
                  have hF := va_free (wc := []) hD hS hA [] rfl
                  refine vx_calli (vx_runV (As := [.long (lN (wd (ki j)))]) (rest := [.int (nI 1)]) ⟨hx, hb, hml, hown, hts⟩ (c_X9_treeDepth (l := l) (D := D) (xo := xo) (gg := gg) (gr := gr) (ce := ce) (tr := tr) (sh := sh) (ar := ar) (ti := ti) (n1 := n1) (l1 := l1) (s2 := s2) (a2 := a2) (s3 := s3) (a3 := a3) (n2 := n2) (l2 := l2) (cS := cS) (f := f) (ea := ea) (wa := wa) (pf := pf) (cn := cn) (dp := dp) (oc := oc) (ic := ic) (lf := lf) (pt := pt) (wd := wd) (n := n) (a := wd (ki j)) (sz := H_17.size) (hnd := (q_ndt (q_ndsw (q_ndg (l1 := [xo, gg, gr, ce, tr, sh, ar, ti, n1, l1, s2, a2, s3, a3, n2, l2] ++ (rg ea n ++ rg wa n)) (l2 := []) hD hnR hna (by rw [List.map_append, List.map_append, EW_fst, WW_fst]; rfl) rfl)) [0, 4, 5, 6] rfl rfl)) (hst := hst) (ha := haj) (hfe := hfe) (hn40 := hn40) (hg := hg)) (cwV 1 hts gL_areWordsSo_X9_treeDepth rfl rfl rfl (by decide +kernel) ⟨Nat.le_of_ble_eq_true rfl, Nat.le_of_ble_eq_true rfl⟩) ⟨qWx_blind, (va_recv hK hP (ci := 8) (q0 := 0) rfl rfl), (qWx_of (va_P.app (hP.sub (ws' := [(xo, .inr (8, [.ref gg, .ref tr, .ref ti, .ref s2, .ref s3, .ref n2])), (tr, .inr (5, [.ref sh])), (sh, .inr (4, [.ref ar, .int (nI n)])), (ar, .inl (cS, 40, .inr (.inr (.inr (.inr f)))))]) [0, 4, 5, 6] rfl) (q_right hP)) (q_Pof (fun _ h => absurd h List.not_mem_nil)) (hK.sub (tys' := [(cS, .object "FuzzyFens$Entry")]) [1] rfl) hNw (qZ_at hZ hS (fun q h => hF q h)) hXt)⟩ rfl rfl hl.1 rfl (lv_room (Nat.le_of_ble_eq_true rfl)) dL_areWordsSo_217 ⟨Nat.le_trans (Nat.add_le_add_right (Nat.add_le_add_right (Nat.add_le_add_right (Nat.add_le_add_right hcC_7 1) 1) 1) 1) (Nat.le_of_ble_eq_true rfl), Nat.le_trans (Nat.add_le_add_right (Nat.add_le_add_right (Nat.add_le_add_right (Nat.add_le_add_right hcS_7 6) 6) 6) 6) (Nat.le_of_ble_eq_true rfl)⟩) hS (fun q _ h => hF q h) hF (fun q _ h => hF q h) (fun E9 ce9 q9 u9 t9 H9 locs9 ht9 hvm9 hpx9 hBX9 hz9 hk9 hS9 hc9 hv9 hcl9 => ?_) (fun r_21 u_25 t_24 H_22 locs_23 ht hvm hr_21 hB hz1 hk1 hS => ?_)
                  · obtain ⟨hE9, hW9⟩ := hBX9
                    exact False.elim (hE9.2 hgj)
                  skip
                  replace hB : va_P D vwCl [] H_22 := by rw [← ht]; exact hB
                  obtain ⟨hP, hD⟩ := q_join (wc := []) (w1 := []) (ws' := [(xo, .inr (8, [.ref gg, .ref tr, .ref ti, .ref s2, .ref s3, .ref n2])), (gg, .inr (1, [.ref gr])), (gr, .inr (2, [.ref ce])), (ce, .inl (cG, 121, .inl fc1)), (tr, .inr (5, [.ref sh])), (sh, .inr (4, [.ref ar, .int (nI n)])), (ar, .inl (cS, 40, .inr (.inr (.inr (.inr f))))), (ti, .inr (6, [.ref n1])), (n1, .inr (3, [.ref l1, .int z1])), (l1, .inl (cJ1, 401, .inr (.inl fN))), (s2, .inr (4, [.ref a2, .int (nI m)])), (a2, .inl (cS2, 40, .inr (.inr (.inr (.inr fk))))), (s3, .inr (4, [.ref a3, .int z3])), (a3, .inl (cS3, 40, .inr (.inr (.inr (.inr fr))))), (n2, .inr (3, [.ref l2, .int z2])), (l2, .inl (cJ2, 56, .inr (.inl fs)))] ++ (EW ea wa pf cn dp oc ic lf pt n ++ WW wa wd n)) [] hP hD rfl rfl hk1 hB rfl
                  have hR := q_ro hR0 hna hS
                  obtain ⟨rfl, f_r_21⟩ := hr_21
                  refine q_cvi (show (dpv dp (ffi (fun k => decide (wd k = (wd (ki j)))) n)) = (nI (dp (ki j))) from (by rw [ffi_wd hwi hkj]; rfl)) ?_
                  refine q_if_ne (a := dp (ki j)) (tgt := 227) hx hb dL_areWordsSo_220 (by decide) (by have := hdb _ hkj; omega) (fun c_220 => False.elim (by have := (hdp _ hkj).1 e_p; omega)) (fun c_220 => ?_)
                  refine lv_iconst (v := nI 1) hx hb dL_areWordsSo_223 (by decide) ?_
                  refine lv_goto (tgt := 228) hx hb dL_areWordsSo_224 (by decide) ?_
                  refine lv_icmp_ne (tgt := 267) hx hb dL_areWordsSo_228 (by decide) (fun c9 => absurd (by decide) c9) (fun _ => ?_)
                  refine lv_lload hx hb dL_areWordsSo_231 (lv_at hl 0 rfl) ?_
                  refine q_cvl (show (lnn wd (pi (ki j))) = ((-1)) from (lnn_n e_p)) ?_
                  refine lv_lconst (v := lN 0) hx hb dL_areWordsSo_233 (by decide) ?_
                  refine W.lcmp hx hb dL_areWordsSo_234 ?_
                  refine q_lr_le (tgt := 269) hx hb dL_areWordsSo_235 (by decide) (fun c_235 => ?_) (fun c_235 => False.elim (by exact c_235 (by decide)))
                  refine lv_lload hx hb dL_areWordsSo_269 (lv_at hl 4 rfl) ?_
                  refine lv_lstore_n (lv' := [(2, .long (lN (wd (ki j)))), (13, .long (lnn wd (pi (ki j)))), (1, .int (nI (tnd wd ki (j + 1)))), (12, .int (nI q)), (7, .long (lN (al (wd (ki j))))), (5, .long (lN (wd (ki j)))), (4, .int (nI j)), (0, .ref xo), (9, .long (lN (alb wd ki j))), (11, .int (nI s9))]) hx hb dL_areWordsSo_271 rfl hl (by decide) rfl (fun ls hl => ?_)
                  refine lv_iinc (v := nI (j + 1)) (lv' := [(4, .int (nI (j + 1))), (2, .long (lN (wd (ki j)))), (13, .long (lnn wd (pi (ki j)))), (1, .int (nI (tnd wd ki (j + 1)))), (12, .int (nI q)), (7, .long (lN (al (wd (ki j))))), (5, .long (lN (wd (ki j)))), (0, .ref xo), (9, .long (lN (alb wd ki j))), (11, .int (nI s9))]) hx hb dL_areWordsSo_272 hl (k := 6) rfl (q_inc (k := 1) (by omega)) (by decide) rfl (fun ls hl => ?_)
                  refine lv_goto (tgt := 7) hx hb dL_areWordsSo_275 (by decide) ?_
                  exact ih_7 (j + 1, fc1) _ _ _ _ _ ⟨(by omega), hP, hD, hS, (lv_sub hl [0, 1, 3, 7] rfl)⟩ (by show m - (j + 1) < m - j; omega) (by show _ ≤ 0 + 16 * ((j + 1)); omega) (by show _ ≤ 0 + 96 * ((j + 1)); omega)
              · skip
                have hq7 := hpn _ _ hkj e_p
                have hg7 := hg q7 (by omega)
                have h57 := gw_lt hg7
                have h07 := hg7.1
                refine lv_lload hx hb dL_areWordsSo_202 (lv_at hl 0 rfl) ?_
                refine q_cvl (show (lnn wd (pi (ki j))) = (lN (wd q7)) from (lnn_s e_p)) ?_
                refine lv_lconst (v := lN 0) hx hb dL_areWordsSo_204 (by decide) ?_
                refine W.lcmp hx hb dL_areWordsSo_205 ?_
                refine q_lc_ge (a := wd q7) (b := 0) (tgt := 213) hx hb dL_areWordsSo_206 (by decide) (by omega) (by decide) (fun c_206 => ?_) (fun c_206 => False.elim (by omega))
                refine lv_iconst (v := nI 0) hx hb dL_areWordsSo_213 (by decide) ?_
                refine lv_aload_n hx hb dL_areWordsSo_214 rfl (lv_at hl 7 rfl) ?_
                refine lv_lload hx hb dL_areWordsSo_215 (lv_at hl 4 rfl) ?_
                have hF := va_free (wc := []) hD hS hA [] rfl
                refine vx_calli (vx_runV (As := [.long (lN (wd (ki j)))]) (rest := [.int (nI 0)]) ⟨hx, hb, hml, hown, hts⟩ (c_X9_treeDepth (l := l) (D := D) (xo := xo) (gg := gg) (gr := gr) (ce := ce) (tr := tr) (sh := sh) (ar := ar) (ti := ti) (n1 := n1) (l1 := l1) (s2 := s2) (a2 := a2) (s3 := s3) (a3 := a3) (n2 := n2) (l2 := l2) (cS := cS) (f := f) (ea := ea) (wa := wa) (pf := pf) (cn := cn) (dp := dp) (oc := oc) (ic := ic) (lf := lf) (pt := pt) (wd := wd) (n := n) (a := wd (ki j)) (sz := H_17.size) (hnd := (q_ndt (q_ndsw (q_ndg (l1 := [xo, gg, gr, ce, tr, sh, ar, ti, n1, l1, s2, a2, s3, a3, n2, l2] ++ (rg ea n ++ rg wa n)) (l2 := []) hD hnR hna (by rw [List.map_append, List.map_append, EW_fst, WW_fst]; rfl) rfl)) [0, 4, 5, 6] rfl rfl)) (hst := hst) (ha := haj) (hfe := hfe) (hn40 := hn40) (hg := hg)) (cwV 1 hts gL_areWordsSo_X9_treeDepth rfl rfl rfl (by decide +kernel) ⟨Nat.le_of_ble_eq_true rfl, Nat.le_of_ble_eq_true rfl⟩) ⟨qWx_blind, (va_recv hK hP (ci := 8) (q0 := 0) rfl rfl), (qWx_of (va_P.app (hP.sub (ws' := [(xo, .inr (8, [.ref gg, .ref tr, .ref ti, .ref s2, .ref s3, .ref n2])), (tr, .inr (5, [.ref sh])), (sh, .inr (4, [.ref ar, .int (nI n)])), (ar, .inl (cS, 40, .inr (.inr (.inr (.inr f)))))]) [0, 4, 5, 6] rfl) (q_right hP)) (q_Pof (fun _ h => absurd h List.not_mem_nil)) (hK.sub (tys' := [(cS, .object "FuzzyFens$Entry")]) [1] rfl) hNw (qZ_at hZ hS (fun q h => hF q h)) hXt)⟩ rfl rfl hl.1 rfl (lv_room (Nat.le_of_ble_eq_true rfl)) dL_areWordsSo_217 ⟨Nat.le_trans (Nat.add_le_add_right (Nat.add_le_add_right (Nat.add_le_add_right (Nat.add_le_add_right hcC_7 1) 1) 1) 1) (Nat.le_of_ble_eq_true rfl), Nat.le_trans (Nat.add_le_add_right (Nat.add_le_add_right (Nat.add_le_add_right (Nat.add_le_add_right hcS_7 6) 6) 6) 6) (Nat.le_of_ble_eq_true rfl)⟩) hS (fun q _ h => hF q h) hF (fun q _ h => hF q h) (fun E9 ce9 q9 u9 t9 H9 locs9 ht9 hvm9 hpx9 hBX9 hz9 hk9 hS9 hc9 hv9 hcl9 => ?_) (fun r_26 u_30 t_29 H_27 locs_28 ht hvm hr_26 hB hz1 hk1 hS => ?_)
                · obtain ⟨hE9, hW9⟩ := hBX9
                  exact False.elim (hE9.2 hgj)
                skip
                replace hB : va_P D vwCl [] H_27 := by rw [← ht]; exact hB
                obtain ⟨hP, hD⟩ := q_join (wc := []) (w1 := []) (ws' := [(xo, .inr (8, [.ref gg, .ref tr, .ref ti, .ref s2, .ref s3, .ref n2])), (gg, .inr (1, [.ref gr])), (gr, .inr (2, [.ref ce])), (ce, .inl (cG, 121, .inl fc1)), (tr, .inr (5, [.ref sh])), (sh, .inr (4, [.ref ar, .int (nI n)])), (ar, .inl (cS, 40, .inr (.inr (.inr (.inr f))))), (ti, .inr (6, [.ref n1])), (n1, .inr (3, [.ref l1, .int z1])), (l1, .inl (cJ1, 401, .inr (.inl fN))), (s2, .inr (4, [.ref a2, .int (nI m)])), (a2, .inl (cS2, 40, .inr (.inr (.inr (.inr fk))))), (s3, .inr (4, [.ref a3, .int z3])), (a3, .inl (cS3, 40, .inr (.inr (.inr (.inr fr))))), (n2, .inr (3, [.ref l2, .int z2])), (l2, .inl (cJ2, 56, .inr (.inl fs)))] ++ (EW ea wa pf cn dp oc ic lf pt n ++ WW wa wd n)) [] hP hD rfl rfl hk1 hB rfl
                have hR := q_ro hR0 hna hS
                obtain ⟨rfl, f_r_26⟩ := hr_26
                refine q_cvi (show (dpv dp (ffi (fun k => decide (wd k = (wd (ki j)))) n)) = (nI (dp (ki j))) from (by rw [ffi_wd hwi hkj]; rfl)) ?_
                refine q_if_ne (a := dp (ki j)) (tgt := 227) hx hb dL_areWordsSo_220 (by decide) (by have := hdb _ hkj; omega) (fun c_220 => ?_) (fun c_220 => False.elim (by have := (hdp _ hkj).2 q7 e_p; omega))
                refine lv_iconst (v := nI 0) hx hb dL_areWordsSo_227 (by decide) ?_
                refine lv_icmp_ne (tgt := 267) hx hb dL_areWordsSo_228 (by decide) (fun c9 => absurd (by decide) c9) (fun _ => ?_)
                refine lv_lload hx hb dL_areWordsSo_231 (lv_at hl 0 rfl) ?_
                refine q_cvl (show (lnn wd (pi (ki j))) = (lN (wd q7)) from (lnn_s e_p)) ?_
                refine lv_lconst (v := lN 0) hx hb dL_areWordsSo_233 (by decide) ?_
                refine W.lcmp hx hb dL_areWordsSo_234 ?_
                refine q_lz_le (a := wd q7) (tgt := 269) hx hb dL_areWordsSo_235 (by decide) (by omega) (fun c_235 => ?_) (fun c_235 => ?_)
                · skip
                  omega
                · skip
                  refine lv_aload_n hx hb dL_areWordsSo_238 rfl (lv_at hl 7 rfl) ?_
                  refine lv_lload hx hb dL_areWordsSo_239 (lv_at hl 0 rfl) ?_
                  refine q_cvl (show (lnn wd (pi (ki j))) = (lN (wd q7)) from (lnn_s e_p)) ?_
                  have hF := va_free (wc := []) hD hS hA [] rfl
                  refine vx_calli (vx_runV (As := [.long (lN (wd q7))]) (rest := []) ⟨hx, hb, hml, hown, hts⟩ (c_X9_treeDepth (l := l) (D := D) (xo := xo) (gg := gg) (gr := gr) (ce := ce) (tr := tr) (sh := sh) (ar := ar) (ti := ti) (n1 := n1) (l1 := l1) (s2 := s2) (a2 := a2) (s3 := s3) (a3 := a3) (n2 := n2) (l2 := l2) (cS := cS) (f := f) (ea := ea) (wa := wa) (pf := pf) (cn := cn) (dp := dp) (oc := oc) (ic := ic) (lf := lf) (pt := pt) (wd := wd) (n := n) (a := wd q7) (sz := H_27.size) (hnd := (q_ndt (q_ndsw (q_ndg (l1 := [xo, gg, gr, ce, tr, sh, ar, ti, n1, l1, s2, a2, s3, a3, n2, l2] ++ (rg ea n ++ rg wa n)) (l2 := []) hD hnR hna (by rw [List.map_append, List.map_append, EW_fst, WW_fst]; rfl) rfl)) [0, 4, 5, 6] rfl rfl)) (hst := hst) (ha := by omega) (hfe := hfe) (hn40 := hn40) (hg := hg)) (cwV 1 hts gL_areWordsSo_X9_treeDepth rfl rfl rfl (by decide +kernel) ⟨Nat.le_of_ble_eq_true rfl, Nat.le_of_ble_eq_true rfl⟩) ⟨qWx_blind, (va_recv hK hP (ci := 8) (q0 := 0) rfl rfl), (qWx_of (va_P.app (hP.sub (ws' := [(xo, .inr (8, [.ref gg, .ref tr, .ref ti, .ref s2, .ref s3, .ref n2])), (tr, .inr (5, [.ref sh])), (sh, .inr (4, [.ref ar, .int (nI n)])), (ar, .inl (cS, 40, .inr (.inr (.inr (.inr f)))))]) [0, 4, 5, 6] rfl) (q_right hP)) (q_Pof (fun _ h => absurd h List.not_mem_nil)) (hK.sub (tys' := [(cS, .object "FuzzyFens$Entry")]) [1] rfl) hNw (qZ_at hZ hS (fun q h => hF q h)) hXt)⟩ rfl rfl hl.1 rfl (lv_room (Nat.le_of_ble_eq_true rfl)) dL_areWordsSo_241 ⟨Nat.le_trans (Nat.add_le_add_right (Nat.add_le_add_right (Nat.add_le_add_right (Nat.add_le_add_right (Nat.add_le_add_right hcC_7 1) 1) 1) 1) 1) (Nat.le_of_ble_eq_true rfl), Nat.le_trans (Nat.add_le_add_right (Nat.add_le_add_right (Nat.add_le_add_right (Nat.add_le_add_right (Nat.add_le_add_right hcS_7 6) 6) 6) 6) 6) (Nat.le_of_ble_eq_true rfl)⟩) hS (fun q _ h => hF q h) hF (fun q _ h => hF q h) (fun E9 ce9 q9 u9 t9 H9 locs9 ht9 hvm9 hpx9 hBX9 hz9 hk9 hS9 hc9 hv9 hcl9 => ?_) (fun r_31 u_35 t_34 H_32 locs_33 ht hvm hr_31 hB hz1 hk1 hS => ?_)
                  · obtain ⟨hE9, hW9⟩ := hBX9
                    exact False.elim (hE9.2 hg7)
                  skip
                  replace hB : va_P D vwCl [] H_32 := by rw [← ht]; exact hB
                  obtain ⟨hP, hD⟩ := q_join (wc := []) (w1 := []) (ws' := [(xo, .inr (8, [.ref gg, .ref tr, .ref ti, .ref s2, .ref s3, .ref n2])), (gg, .inr (1, [.ref gr])), (gr, .inr (2, [.ref ce])), (ce, .inl (cG, 121, .inl fc1)), (tr, .inr (5, [.ref sh])), (sh, .inr (4, [.ref ar, .int (nI n)])), (ar, .inl (cS, 40, .inr (.inr (.inr (.inr f))))), (ti, .inr (6, [.ref n1])), (n1, .inr (3, [.ref l1, .int z1])), (l1, .inl (cJ1, 401, .inr (.inl fN))), (s2, .inr (4, [.ref a2, .int (nI m)])), (a2, .inl (cS2, 40, .inr (.inr (.inr (.inr fk))))), (s3, .inr (4, [.ref a3, .int z3])), (a3, .inl (cS3, 40, .inr (.inr (.inr (.inr fr))))), (n2, .inr (3, [.ref l2, .int z2])), (l2, .inl (cJ2, 56, .inr (.inl fs)))] ++ (EW ea wa pf cn dp oc ic lf pt n ++ WW wa wd n)) [] hP hD rfl rfl hk1 hB rfl
                  have hR := q_ro hR0 hna hS
                  obtain ⟨rfl, f_r_31⟩ := hr_31
                  refine q_cvi (show (dpv dp (ffi (fun k => decide (wd k = (wd q7))) n)) = (nI (dp q7)) from (by rw [ffi_wd hwi (show q7 < n by omega)]; rfl)) ?_
                  refine lv_aload_n hx hb dL_areWordsSo_244 rfl (lv_at hl 7 rfl) ?_
                  refine lv_lload hx hb dL_areWordsSo_245 (lv_at hl 4 rfl) ?_
                  have hF := va_free (wc := []) hD hS hA [] rfl
                  refine vx_calli (vx_runV (As := [.long (lN (wd (ki j)))]) (rest := [.int (nI (dp q7))]) ⟨hx, hb, hml, hown, hts⟩ (c_X9_treeDepth (l := l) (D := D) (xo := xo) (gg := gg) (gr := gr) (ce := ce) (tr := tr) (sh := sh) (ar := ar) (ti := ti) (n1 := n1) (l1 := l1) (s2 := s2) (a2 := a2) (s3 := s3) (a3 := a3) (n2 := n2) (l2 := l2) (cS := cS) (f := f) (ea := ea) (wa := wa) (pf := pf) (cn := cn) (dp := dp) (oc := oc) (ic := ic) (lf := lf) (pt := pt) (wd := wd) (n := n) (a := wd (ki j)) (sz := H_32.size) (hnd := (q_ndt (q_ndsw (q_ndg (l1 := [xo, gg, gr, ce, tr, sh, ar, ti, n1, l1, s2, a2, s3, a3, n2, l2] ++ (rg ea n ++ rg wa n)) (l2 := []) hD hnR hna (by rw [List.map_append, List.map_append, EW_fst, WW_fst]; rfl) rfl)) [0, 4, 5, 6] rfl rfl)) (hst := hst) (ha := haj) (hfe := hfe) (hn40 := hn40) (hg := hg)) (cwV 1 hts gL_areWordsSo_X9_treeDepth rfl rfl rfl (by decide +kernel) ⟨Nat.le_of_ble_eq_true rfl, Nat.le_of_ble_eq_true rfl⟩) ⟨qWx_blind, (va_recv hK hP (ci := 8) (q0 := 0) rfl rfl), (qWx_of (va_P.app (hP.sub (ws' := [(xo, .inr (8, [.ref gg, .ref tr, .ref ti, .ref s2, .ref s3, .ref n2])), (tr, .inr (5, [.ref sh])), (sh, .inr (4, [.ref ar, .int (nI n)])), (ar, .inl (cS, 40, .inr (.inr (.inr (.inr f)))))]) [0, 4, 5, 6] rfl) (q_right hP)) (q_Pof (fun _ h => absurd h List.not_mem_nil)) (hK.sub (tys' := [(cS, .object "FuzzyFens$Entry")]) [1] rfl) hNw (qZ_at hZ hS (fun q h => hF q h)) hXt)⟩ rfl rfl hl.1 rfl (lv_room (Nat.le_of_ble_eq_true rfl)) dL_areWordsSo_247 ⟨Nat.le_trans (Nat.add_le_add_right (Nat.add_le_add_right (Nat.add_le_add_right (Nat.add_le_add_right (Nat.add_le_add_right (Nat.add_le_add_right hcC_7 1) 1) 1) 1) 1) 1) (Nat.le_of_ble_eq_true rfl), Nat.le_trans (Nat.add_le_add_right (Nat.add_le_add_right (Nat.add_le_add_right (Nat.add_le_add_right (Nat.add_le_add_right (Nat.add_le_add_right hcS_7 6) 6) 6) 6) 6) 6) (Nat.le_of_ble_eq_true rfl)⟩) hS (fun q _ h => hF q h) hF (fun q _ h => hF q h) (fun E9 ce9 q9 u9 t9 H9 locs9 ht9 hvm9 hpx9 hBX9 hz9 hk9 hS9 hc9 hv9 hcl9 => ?_) (fun r_36 u_40 t_39 H_37 locs_38 ht hvm hr_36 hB hz1 hk1 hS => ?_)
                  · obtain ⟨hE9, hW9⟩ := hBX9
                    exact False.elim (hE9.2 hgj)
                  skip
                  replace hB : va_P D vwCl [] H_37 := by rw [← ht]; exact hB
                  obtain ⟨hP, hD⟩ := q_join (wc := []) (w1 := []) (ws' := [(xo, .inr (8, [.ref gg, .ref tr, .ref ti, .ref s2, .ref s3, .ref n2])), (gg, .inr (1, [.ref gr])), (gr, .inr (2, [.ref ce])), (ce, .inl (cG, 121, .inl fc1)), (tr, .inr (5, [.ref sh])), (sh, .inr (4, [.ref ar, .int (nI n)])), (ar, .inl (cS, 40, .inr (.inr (.inr (.inr f))))), (ti, .inr (6, [.ref n1])), (n1, .inr (3, [.ref l1, .int z1])), (l1, .inl (cJ1, 401, .inr (.inl fN))), (s2, .inr (4, [.ref a2, .int (nI m)])), (a2, .inl (cS2, 40, .inr (.inr (.inr (.inr fk))))), (s3, .inr (4, [.ref a3, .int z3])), (a3, .inl (cS3, 40, .inr (.inr (.inr (.inr fr))))), (n2, .inr (3, [.ref l2, .int z2])), (l2, .inl (cJ2, 56, .inr (.inl fs)))] ++ (EW ea wa pf cn dp oc ic lf pt n ++ WW wa wd n)) [] hP hD rfl rfl hk1 hB rfl
                  have hR := q_ro hR0 hna hS
                  obtain ⟨rfl, f_r_36⟩ := hr_36
                  refine q_cvi (show (dpv dp (ffi (fun k => decide (wd k = (wd (ki j)))) n)) = (nI (dp (ki j))) from (by rw [ffi_wd hwi hkj]; rfl)) ?_
                  have hd7 := (hdp _ hkj).2 q7 e_p
                  have hd40 := hdb _ hkj
                  refine lv_iconst (v := nI 1) hx hb dL_areWordsSo_250 (by decide) ?_
                  refine q_isub (d := dp (ki j) - 1) hx hb dL_areWordsSo_251 (by omega) ?_
                  refine q_icmp_ne (a := dp q7) (b := dp (ki j) - 1) (tgt := 267) hx hb dL_areWordsSo_252 (by decide) (by omega) (by omega) (fun c_252 => False.elim (by omega)) (fun c_252 => ?_)
                  refine lv_aload_n hx hb dL_areWordsSo_255 rfl (lv_at hl 7 rfl) ?_
                  refine lv_lload hx hb dL_areWordsSo_256 (lv_at hl 0 rfl) ?_
                  refine q_cvl (show (lnn wd (pi (ki j))) = (lN (wd q7)) from (lnn_s e_p)) ?_
                  refine lv_lload hx hb dL_areWordsSo_258 (lv_at hl 4 rfl) ?_
                  have hF := va_free (wc := [(ce, .inl (cG, 121, .inl fc1))]) hD hS hA [3] rfl
                  refine vx_calli (vx_runV (As := [.long (lN (wd q7)), .long (lN (wd (ki j)))]) (rest := []) ⟨hx, hb, hml, hown, hts⟩ (c_X9_distance (l := l) (D := D) (xo := xo) (gg := gg) (gr := gr) (ce := ce) (tr := tr) (sh := sh) (ar := ar) (ti := ti) (n1 := n1) (l1 := l1) (s2 := s2) (a2 := a2) (s3 := s3) (a3 := a3) (n2 := n2) (l2 := l2) (cG := cG) (fc := fc1) (a := wd q7) (b := wd (ki j)) (sz := H_37.size) (hnd := (q_nds (q_ndl (q_ndsw (q_ndg (l1 := [xo, gg, gr, ce, tr, sh, ar, ti, n1, l1, s2, a2, s3, a3, n2, l2] ++ (rg ea n ++ rg wa n)) (l2 := []) hD hnR hna (by rw [List.map_append, List.map_append, EW_fst, WW_fst]; rfl) rfl))) [3, 0, 1, 2] rfl rfl)) (hst := hst) (ha := by omega) (hb9 := haj)) (cwV 2 hts gL_areWordsSo_X9_distance rfl rfl rfl (by decide +kernel) ⟨Nat.le_of_ble_eq_true rfl, Nat.le_of_ble_eq_true rfl⟩) ⟨qWx_blind, (va_recv hK hP (ci := 8) (q0 := 0) rfl rfl), (qWx_of (hP.sub (ws' := [(xo, .inr (8, [.ref gg, .ref tr, .ref ti, .ref s2, .ref s3, .ref n2])), (gg, .inr (1, [.ref gr])), (gr, .inr (2, [.ref ce]))]) [0, 1, 2] rfl) (hP.sub (ws' := [(ce, .inl (cG, 121, .inl fc1))]) [3] rfl) (hK.sub (tys' := [(cG, .int)]) [0] rfl) hNw (qZ_at hZ hS (fun q h => hF q h)) hXt)⟩ rfl rfl hl.1 rfl (lv_room (Nat.le_of_ble_eq_true rfl)) dL_areWordsSo_260 ⟨Nat.le_trans (Nat.add_le_add_right (Nat.add_le_add_right (Nat.add_le_add_right (Nat.add_le_add_right (Nat.add_le_add_right (Nat.add_le_add_right (Nat.add_le_add_right hcC_7 1) 1) 1) 1) 1) 1) 2) (Nat.le_of_ble_eq_true rfl), Nat.le_trans (Nat.add_le_add_right (Nat.add_le_add_right (Nat.add_le_add_right (Nat.add_le_add_right (Nat.add_le_add_right (Nat.add_le_add_right (Nat.add_le_add_right hcS_7 6) 6) 6) 6) 6) 6) 12) (Nat.le_of_ble_eq_true rfl)⟩) hS (fun q _ h => hF q h) hF (fun q _ h => hF q h) (fun E9 ce9 q9 u9 t9 H9 locs9 ht9 hvm9 hpx9 hBX9 hz9 hk9 hS9 hc9 hv9 hcl9 => ?_) (fun r_41 u_45 t_44 H_42 locs_43 ht hvm hr_41 hB hz1 hk1 hS => ?_)
                  · obtain ⟨hE9, hW9⟩ := hBX9
                    exact False.elim (hE9.2 ⟨hg7, hgj⟩)
                  skip
                  obtain ⟨fc2_46, rfl⟩ : ∃ z, z = u_45 := ⟨_, rfl⟩
                  replace hB : va_P D vwCl [(ce, .inl (cG, 121, .inl fc2_46))] H_42 := by rw [← ht]; exact hB
                  obtain ⟨hP, hD⟩ := q_join (wc := [(ce, .inl (cG, 121, .inl fc1))]) (w1 := [(ce, .inl (cG, 121, .inl fc2_46))]) (ws' := [(xo, .inr (8, [.ref gg, .ref tr, .ref ti, .ref s2, .ref s3, .ref n2])), (gg, .inr (1, [.ref gr])), (gr, .inr (2, [.ref ce])), (ce, .inl (cG, 121, .inl fc2_46)), (tr, .inr (5, [.ref sh])), (sh, .inr (4, [.ref ar, .int (nI n)])), (ar, .inl (cS, 40, .inr (.inr (.inr (.inr f))))), (ti, .inr (6, [.ref n1])), (n1, .inr (3, [.ref l1, .int z1])), (l1, .inl (cJ1, 401, .inr (.inl fN))), (s2, .inr (4, [.ref a2, .int (nI m)])), (a2, .inl (cS2, 40, .inr (.inr (.inr (.inr fk))))), (s3, .inr (4, [.ref a3, .int z3])), (a3, .inl (cS3, 40, .inr (.inr (.inr (.inr fr))))), (n2, .inr (3, [.ref l2, .int z2])), (l2, .inl (cJ2, 56, .inr (.inl fs)))] ++ (EW ea wa pf cn dp oc ic lf pt n ++ WW wa wd n)) [3] hP hD rfl rfl hk1 hB rfl
                  have hR := q_ro hR0 hna hS
                  obtain ⟨rfl, f_r_41⟩ := hr_41
                  refine q_cvi (show (nI (lev (ltz (wd q7)) (ltz (wd (ki j))) (wl (wd q7)) (wl (wd (ki j))))) = (nI (dst wd (wd q7) (ki j))) from rfl) ?_
                  have hd20 := dst_20 (wd := wd) (a := wd q7) (q := ki j) (gw_wl hg7) (gw_wl hgj)
                  refine lv_iconst (v := nI 1) hx hb dL_areWordsSo_263 (by decide) ?_
                  refine q_icmp_ge (a := dst wd (wd q7) (ki j)) (b := 1) (tgt := 269) hx hb dL_areWordsSo_264 (by decide) (by omega) (by decide) (fun c_264 => ?_) (fun c_264 => False.elim (by have h9 := (dst_0 (wd := wd) (v := wd q7) (i := ki j)).mp (by omega); have := hwi q7 (ki j) (by omega) hkj h9; omega))
                  refine lv_lload hx hb dL_areWordsSo_269 (lv_at hl 4 rfl) ?_
                  refine lv_lstore_n (lv' := [(2, .long (lN (wd (ki j)))), (13, .long (lnn wd (pi (ki j)))), (1, .int (nI (tnd wd ki (j + 1)))), (12, .int (nI q)), (7, .long (lN (al (wd (ki j))))), (5, .long (lN (wd (ki j)))), (4, .int (nI j)), (0, .ref xo), (9, .long (lN (alb wd ki j))), (11, .int (nI s9))]) hx hb dL_areWordsSo_271 rfl hl (by decide) rfl (fun ls hl => ?_)
                  refine lv_iinc (v := nI (j + 1)) (lv' := [(4, .int (nI (j + 1))), (2, .long (lN (wd (ki j)))), (13, .long (lnn wd (pi (ki j)))), (1, .int (nI (tnd wd ki (j + 1)))), (12, .int (nI q)), (7, .long (lN (al (wd (ki j))))), (5, .long (lN (wd (ki j)))), (0, .ref xo), (9, .long (lN (alb wd ki j))), (11, .int (nI s9))]) hx hb dL_areWordsSo_272 hl (k := 6) rfl (q_inc (k := 1) (by omega)) (by decide) rfl (fun ls hl => ?_)
                  refine lv_goto (tgt := 7) hx hb dL_areWordsSo_275 (by decide) ?_
                  exact ih_7 (j + 1, fc2_46) _ _ _ _ _ ⟨(by omega), hP, hD, hS, (lv_sub hl [0, 1, 3, 7] rfl)⟩ (by show m - (j + 1) < m - j; omega) (by show _ ≤ 0 + 16 * ((j + 1)); omega) (by show _ ≤ 0 + 96 * ((j + 1)); omega)
            · skip
              refine lv_lload hx hb dL_areWordsSo_194 (lv_at hl 3 rfl) ?_
              refine lv_lload hx hb dL_areWordsSo_196 (lv_at hl 8 rfl) ?_
              refine W.lcmp hx hb dL_areWordsSo_198 ?_
              refine q_lc_le (a := al (wd (ki j))) (b := alb wd ki j) (tgt := 267) hx hb dL_areWordsSo_199 (by decide) (by omega) (by omega) (fun c_199 => ?_) (fun c_199 => ?_)
              · skip
                have := hsr (j - 1) j (by omega) (by omega); rw [alb_s c_191] at c_199; omega
              · skip
                refine q_opt (o := pi (ki j)) (fun e_p => ?_) (fun q7 e_p => ?_)
                · skip
                  refine lv_lload hx hb dL_areWordsSo_202 (lv_at hl 0 rfl) ?_
                  refine q_cvl (show (lnn wd (pi (ki j))) = ((-1)) from (lnn_n e_p)) ?_
                  refine lv_lconst (v := lN 0) hx hb dL_areWordsSo_204 (by decide) ?_
                  refine W.lcmp hx hb dL_areWordsSo_205 ?_
                  refine q_lr_ge (tgt := 213) hx hb dL_areWordsSo_206 (by decide) (fun c_206 => ?_) (fun c_206 => ?_)
                  · skip
                    exact absurd c_206 (by decide)
                  · skip
                    refine lv_iconst (v := nI 1) hx hb dL_areWordsSo_209 (by decide) ?_
                    refine lv_goto (tgt := 214) hx hb dL_areWordsSo_210 (by decide) ?_
                    refine lv_aload_n hx hb dL_areWordsSo_214 rfl (lv_at hl 7 rfl) ?_
                    refine lv_lload hx hb dL_areWordsSo_215 (lv_at hl 4 rfl) ?_
                    have hF := va_free (wc := []) hD hS hA [] rfl
                    refine vx_calli (vx_runV (As := [.long (lN (wd (ki j)))]) (rest := [.int (nI 1)]) ⟨hx, hb, hml, hown, hts⟩ (c_X9_treeDepth (l := l) (D := D) (xo := xo) (gg := gg) (gr := gr) (ce := ce) (tr := tr) (sh := sh) (ar := ar) (ti := ti) (n1 := n1) (l1 := l1) (s2 := s2) (a2 := a2) (s3 := s3) (a3 := a3) (n2 := n2) (l2 := l2) (cS := cS) (f := f) (ea := ea) (wa := wa) (pf := pf) (cn := cn) (dp := dp) (oc := oc) (ic := ic) (lf := lf) (pt := pt) (wd := wd) (n := n) (a := wd (ki j)) (sz := H_17.size) (hnd := (q_ndt (q_ndsw (q_ndg (l1 := [xo, gg, gr, ce, tr, sh, ar, ti, n1, l1, s2, a2, s3, a3, n2, l2] ++ (rg ea n ++ rg wa n)) (l2 := []) hD hnR hna (by rw [List.map_append, List.map_append, EW_fst, WW_fst]; rfl) rfl)) [0, 4, 5, 6] rfl rfl)) (hst := hst) (ha := haj) (hfe := hfe) (hn40 := hn40) (hg := hg)) (cwV 1 hts gL_areWordsSo_X9_treeDepth rfl rfl rfl (by decide +kernel) ⟨Nat.le_of_ble_eq_true rfl, Nat.le_of_ble_eq_true rfl⟩) ⟨qWx_blind, (va_recv hK hP (ci := 8) (q0 := 0) rfl rfl), (qWx_of (va_P.app (hP.sub (ws' := [(xo, .inr (8, [.ref gg, .ref tr, .ref ti, .ref s2, .ref s3, .ref n2])), (tr, .inr (5, [.ref sh])), (sh, .inr (4, [.ref ar, .int (nI n)])), (ar, .inl (cS, 40, .inr (.inr (.inr (.inr f)))))]) [0, 4, 5, 6] rfl) (q_right hP)) (q_Pof (fun _ h => absurd h List.not_mem_nil)) (hK.sub (tys' := [(cS, .object "FuzzyFens$Entry")]) [1] rfl) hNw (qZ_at hZ hS (fun q h => hF q h)) hXt)⟩ rfl rfl hl.1 rfl (lv_room (Nat.le_of_ble_eq_true rfl)) dL_areWordsSo_217 ⟨Nat.le_trans (Nat.add_le_add_right (Nat.add_le_add_right (Nat.add_le_add_right (Nat.add_le_add_right hcC_7 1) 1) 1) 1) (Nat.le_of_ble_eq_true rfl), Nat.le_trans (Nat.add_le_add_right (Nat.add_le_add_right (Nat.add_le_add_right (Nat.add_le_add_right hcS_7 6) 6) 6) 6) (Nat.le_of_ble_eq_true rfl)⟩) hS (fun q _ h => hF q h) hF (fun q _ h => hF q h) (fun E9 ce9 q9 u9 t9 H9 locs9 ht9 hvm9 hpx9 hBX9 hz9 hk9 hS9 hc9 hv9 hcl9 => ?_) (fun r_47 u_51 t_50 H_48 locs_49 ht hvm hr_47 hB hz1 hk1 hS => ?_)
                    · obtain ⟨hE9, hW9⟩ := hBX9
                      exact False.elim (hE9.2 hgj)
                    skip
                    replace hB : va_P D vwCl [] H_48 := by rw [← ht]; exact hB
                    obtain ⟨hP, hD⟩ := q_join (wc := []) (w1 := []) (ws' := [(xo, .inr (8, [.ref gg, .ref tr, .ref ti, .ref s2, .ref s3, .ref n2])), (gg, .inr (1, [.ref gr])), (gr, .inr (2, [.ref ce])), (ce, .inl (cG, 121, .inl fc1)), (tr, .inr (5, [.ref sh])), (sh, .inr (4, [.ref ar, .int (nI n)])), (ar, .inl (cS, 40, .inr (.inr (.inr (.inr f))))), (ti, .inr (6, [.ref n1])), (n1, .inr (3, [.ref l1, .int z1])), (l1, .inl (cJ1, 401, .inr (.inl fN))), (s2, .inr (4, [.ref a2, .int (nI m)])), (a2, .inl (cS2, 40, .inr (.inr (.inr (.inr fk))))), (s3, .inr (4, [.ref a3, .int z3])), (a3, .inl (cS3, 40, .inr (.inr (.inr (.inr fr))))), (n2, .inr (3, [.ref l2, .int z2])), (l2, .inl (cJ2, 56, .inr (.inl fs)))] ++ (EW ea wa pf cn dp oc ic lf pt n ++ WW wa wd n)) [] hP hD rfl rfl hk1 hB rfl
                    have hR := q_ro hR0 hna hS
                    obtain ⟨rfl, f_r_47⟩ := hr_47
                    refine q_cvi (show (dpv dp (ffi (fun k => decide (wd k = (wd (ki j)))) n)) = (nI (dp (ki j))) from (by rw [ffi_wd hwi hkj]; rfl)) ?_
                    refine q_if_ne (a := dp (ki j)) (tgt := 227) hx hb dL_areWordsSo_220 (by decide) (by have := hdb _ hkj; omega) (fun c_220 => False.elim (by have := (hdp _ hkj).1 e_p; omega)) (fun c_220 => ?_)
                    refine lv_iconst (v := nI 1) hx hb dL_areWordsSo_223 (by decide) ?_
                    refine lv_goto (tgt := 228) hx hb dL_areWordsSo_224 (by decide) ?_
                    refine lv_icmp_ne (tgt := 267) hx hb dL_areWordsSo_228 (by decide) (fun c9 => absurd (by decide) c9) (fun _ => ?_)
                    refine lv_lload hx hb dL_areWordsSo_231 (lv_at hl 0 rfl) ?_
                    refine q_cvl (show (lnn wd (pi (ki j))) = ((-1)) from (lnn_n e_p)) ?_
                    refine lv_lconst (v := lN 0) hx hb dL_areWordsSo_233 (by decide) ?_
                    refine W.lcmp hx hb dL_areWordsSo_234 ?_
                    refine q_lr_le (tgt := 269) hx hb dL_areWordsSo_235 (by decide) (fun c_235 => ?_) (fun c_235 => False.elim (by exact c_235 (by decide)))
                    refine lv_lload hx hb dL_areWordsSo_269 (lv_at hl 4 rfl) ?_
                    refine lv_lstore_n (lv' := [(2, .long (lN (wd (ki j)))), (13, .long (lnn wd (pi (ki j)))), (1, .int (nI (tnd wd ki (j + 1)))), (12, .int (nI q)), (7, .long (lN (al (wd (ki j))))), (5, .long (lN (wd (ki j)))), (4, .int (nI j)), (0, .ref xo), (9, .long (lN (alb wd ki j))), (11, .int (nI s9))]) hx hb dL_areWordsSo_271 rfl hl (by decide) rfl (fun ls hl => ?_)
                    refine lv_iinc (v := nI (j + 1)) (lv' := [(4, .int (nI (j + 1))), (2, .long (lN (wd (ki j)))), (13, .long (lnn wd (pi (ki j)))), (1, .int (nI (tnd wd ki (j + 1)))), (12, .int (nI q)), (7, .long (lN (al (wd (ki j))))), (5, .long (lN (wd (ki j)))), (0, .ref xo), (9, .long (lN (alb wd ki j))), (11, .int (nI s9))]) hx hb dL_areWordsSo_272 hl (k := 6) rfl (q_inc (k := 1) (by omega)) (by decide) rfl (fun ls hl => ?_)
                    refine lv_goto (tgt := 7) hx hb dL_areWordsSo_275 (by decide) ?_
                    exact ih_7 (j + 1, fc1) _ _ _ _ _ ⟨(by omega), hP, hD, hS, (lv_sub hl [0, 1, 3, 7] rfl)⟩ (by show m - (j + 1) < m - j; omega) (by show _ ≤ 0 + 16 * ((j + 1)); omega) (by show _ ≤ 0 + 96 * ((j + 1)); omega)
                · skip
                  have hq7 := hpn _ _ hkj e_p
                  have hg7 := hg q7 (by omega)
                  have h57 := gw_lt hg7
                  have h07 := hg7.1
                  refine lv_lload hx hb dL_areWordsSo_202 (lv_at hl 0 rfl) ?_
                  refine q_cvl (show (lnn wd (pi (ki j))) = (lN (wd q7)) from (lnn_s e_p)) ?_
                  refine lv_lconst (v := lN 0) hx hb dL_areWordsSo_204 (by decide) ?_
                  refine W.lcmp hx hb dL_areWordsSo_205 ?_
                  refine q_lc_ge (a := wd q7) (b := 0) (tgt := 213) hx hb dL_areWordsSo_206 (by decide) (by omega) (by decide) (fun c_206 => ?_) (fun c_206 => False.elim (by omega))
                  refine lv_iconst (v := nI 0) hx hb dL_areWordsSo_213 (by decide) ?_
                  refine lv_aload_n hx hb dL_areWordsSo_214 rfl (lv_at hl 7 rfl) ?_
                  refine lv_lload hx hb dL_areWordsSo_215 (lv_at hl 4 rfl) ?_
                  have hF := va_free (wc := []) hD hS hA [] rfl
                  refine vx_calli (vx_runV (As := [.long (lN (wd (ki j)))]) (rest := [.int (nI 0)]) ⟨hx, hb, hml, hown, hts⟩ (c_X9_treeDepth (l := l) (D := D) (xo := xo) (gg := gg) (gr := gr) (ce := ce) (tr := tr) (sh := sh) (ar := ar) (ti := ti) (n1 := n1) (l1 := l1) (s2 := s2) (a2 := a2) (s3 := s3) (a3 := a3) (n2 := n2) (l2 := l2) (cS := cS) (f := f) (ea := ea) (wa := wa) (pf := pf) (cn := cn) (dp := dp) (oc := oc) (ic := ic) (lf := lf) (pt := pt) (wd := wd) (n := n) (a := wd (ki j)) (sz := H_17.size) (hnd := (q_ndt (q_ndsw (q_ndg (l1 := [xo, gg, gr, ce, tr, sh, ar, ti, n1, l1, s2, a2, s3, a3, n2, l2] ++ (rg ea n ++ rg wa n)) (l2 := []) hD hnR hna (by rw [List.map_append, List.map_append, EW_fst, WW_fst]; rfl) rfl)) [0, 4, 5, 6] rfl rfl)) (hst := hst) (ha := haj) (hfe := hfe) (hn40 := hn40) (hg := hg)) (cwV 1 hts gL_areWordsSo_X9_treeDepth rfl rfl rfl (by decide +kernel) ⟨Nat.le_of_ble_eq_true rfl, Nat.le_of_ble_eq_true rfl⟩) ⟨qWx_blind, (va_recv hK hP (ci := 8) (q0 := 0) rfl rfl), (qWx_of (va_P.app (hP.sub (ws' := [(xo, .inr (8, [.ref gg, .ref tr, .ref ti, .ref s2, .ref s3, .ref n2])), (tr, .inr (5, [.ref sh])), (sh, .inr (4, [.ref ar, .int (nI n)])), (ar, .inl (cS, 40, .inr (.inr (.inr (.inr f)))))]) [0, 4, 5, 6] rfl) (q_right hP)) (q_Pof (fun _ h => absurd h List.not_mem_nil)) (hK.sub (tys' := [(cS, .object "FuzzyFens$Entry")]) [1] rfl) hNw (qZ_at hZ hS (fun q h => hF q h)) hXt)⟩ rfl rfl hl.1 rfl (lv_room (Nat.le_of_ble_eq_true rfl)) dL_areWordsSo_217 ⟨Nat.le_trans (Nat.add_le_add_right (Nat.add_le_add_right (Nat.add_le_add_right (Nat.add_le_add_right hcC_7 1) 1) 1) 1) (Nat.le_of_ble_eq_true rfl), Nat.le_trans (Nat.add_le_add_right (Nat.add_le_add_right (Nat.add_le_add_right (Nat.add_le_add_right hcS_7 6) 6) 6) 6) (Nat.le_of_ble_eq_true rfl)⟩) hS (fun q _ h => hF q h) hF (fun q _ h => hF q h) (fun E9 ce9 q9 u9 t9 H9 locs9 ht9 hvm9 hpx9 hBX9 hz9 hk9 hS9 hc9 hv9 hcl9 => ?_) (fun r_52 u_56 t_55 H_53 locs_54 ht hvm hr_52 hB hz1 hk1 hS => ?_)
                  · obtain ⟨hE9, hW9⟩ := hBX9
                    exact False.elim (hE9.2 hgj)
                  skip
                  replace hB : va_P D vwCl [] H_53 := by rw [← ht]; exact hB
                  obtain ⟨hP, hD⟩ := q_join (wc := []) (w1 := []) (ws' := [(xo, .inr (8, [.ref gg, .ref tr, .ref ti, .ref s2, .ref s3, .ref n2])), (gg, .inr (1, [.ref gr])), (gr, .inr (2, [.ref ce])), (ce, .inl (cG, 121, .inl fc1)), (tr, .inr (5, [.ref sh])), (sh, .inr (4, [.ref ar, .int (nI n)])), (ar, .inl (cS, 40, .inr (.inr (.inr (.inr f))))), (ti, .inr (6, [.ref n1])), (n1, .inr (3, [.ref l1, .int z1])), (l1, .inl (cJ1, 401, .inr (.inl fN))), (s2, .inr (4, [.ref a2, .int (nI m)])), (a2, .inl (cS2, 40, .inr (.inr (.inr (.inr fk))))), (s3, .inr (4, [.ref a3, .int z3])), (a3, .inl (cS3, 40, .inr (.inr (.inr (.inr fr))))), (n2, .inr (3, [.ref l2, .int z2])), (l2, .inl (cJ2, 56, .inr (.inl fs)))] ++ (EW ea wa pf cn dp oc ic lf pt n ++ WW wa wd n)) [] hP hD rfl rfl hk1 hB rfl
                  have hR := q_ro hR0 hna hS
                  obtain ⟨rfl, f_r_52⟩ := hr_52
                  refine q_cvi (show (dpv dp (ffi (fun k => decide (wd k = (wd (ki j)))) n)) = (nI (dp (ki j))) from (by rw [ffi_wd hwi hkj]; rfl)) ?_
                  refine q_if_ne (a := dp (ki j)) (tgt := 227) hx hb dL_areWordsSo_220 (by decide) (by have := hdb _ hkj; omega) (fun c_220 => ?_) (fun c_220 => False.elim (by have := (hdp _ hkj).2 q7 e_p; omega))
                  refine lv_iconst (v := nI 0) hx hb dL_areWordsSo_227 (by decide) ?_
                  refine lv_icmp_ne (tgt := 267) hx hb dL_areWordsSo_228 (by decide) (fun c9 => absurd (by decide) c9) (fun _ => ?_)
                  refine lv_lload hx hb dL_areWordsSo_231 (lv_at hl 0 rfl) ?_
                  refine q_cvl (show (lnn wd (pi (ki j))) = (lN (wd q7)) from (lnn_s e_p)) ?_
                  refine lv_lconst (v := lN 0) hx hb dL_areWordsSo_233 (by decide) ?_
                  refine W.lcmp hx hb dL_areWordsSo_234 ?_
                  refine q_lz_le (a := wd q7) (tgt := 269) hx hb dL_areWordsSo_235 (by decide) (by omega) (fun c_235 => ?_) (fun c_235 => ?_)
                  · skip
                    omega
                  · skip
                    refine lv_aload_n hx hb dL_areWordsSo_238 rfl (lv_at hl 7 rfl) ?_
                    refine lv_lload hx hb dL_areWordsSo_239 (lv_at hl 0 rfl) ?_
                    refine q_cvl (show (lnn wd (pi (ki j))) = (lN (wd q7)) from (lnn_s e_p)) ?_
                    have hF := va_free (wc := []) hD hS hA [] rfl
                    refine vx_calli (vx_runV (As := [.long (lN (wd q7))]) (rest := []) ⟨hx, hb, hml, hown, hts⟩ (c_X9_treeDepth (l := l) (D := D) (xo := xo) (gg := gg) (gr := gr) (ce := ce) (tr := tr) (sh := sh) (ar := ar) (ti := ti) (n1 := n1) (l1 := l1) (s2 := s2) (a2 := a2) (s3 := s3) (a3 := a3) (n2 := n2) (l2 := l2) (cS := cS) (f := f) (ea := ea) (wa := wa) (pf := pf) (cn := cn) (dp := dp) (oc := oc) (ic := ic) (lf := lf) (pt := pt) (wd := wd) (n := n) (a := wd q7) (sz := H_53.size) (hnd := (q_ndt (q_ndsw (q_ndg (l1 := [xo, gg, gr, ce, tr, sh, ar, ti, n1, l1, s2, a2, s3, a3, n2, l2] ++ (rg ea n ++ rg wa n)) (l2 := []) hD hnR hna (by rw [List.map_append, List.map_append, EW_fst, WW_fst]; rfl) rfl)) [0, 4, 5, 6] rfl rfl)) (hst := hst) (ha := by omega) (hfe := hfe) (hn40 := hn40) (hg := hg)) (cwV 1 hts gL_areWordsSo_X9_treeDepth rfl rfl rfl (by decide +kernel) ⟨Nat.le_of_ble_eq_true rfl, Nat.le_of_ble_eq_true rfl⟩) ⟨qWx_blind, (va_recv hK hP (ci := 8) (q0 := 0) rfl rfl), (qWx_of (va_P.app (hP.sub (ws' := [(xo, .inr (8, [.ref gg, .ref tr, .ref ti, .ref s2, .ref s3, .ref n2])), (tr, .inr (5, [.ref sh])), (sh, .inr (4, [.ref ar, .int (nI n)])), (ar, .inl (cS, 40, .inr (.inr (.inr (.inr f)))))]) [0, 4, 5, 6] rfl) (q_right hP)) (q_Pof (fun _ h => absurd h List.not_mem_nil)) (hK.sub (tys' := [(cS, .object "FuzzyFens$Entry")]) [1] rfl) hNw (qZ_at hZ hS (fun q h => hF q h)) hXt)⟩ rfl rfl hl.1 rfl (lv_room (Nat.le_of_ble_eq_true rfl)) dL_areWordsSo_241 ⟨Nat.le_trans (Nat.add_le_add_right (Nat.add_le_add_right (Nat.add_le_add_right (Nat.add_le_add_right (Nat.add_le_add_right hcC_7 1) 1) 1) 1) 1) (Nat.le_of_ble_eq_true rfl), Nat.le_trans (Nat.add_le_add_right (Nat.add_le_add_right (Nat.add_le_add_right (Nat.add_le_add_right (Nat.add_le_add_right hcS_7 6) 6) 6) 6) 6) (Nat.le_of_ble_eq_true rfl)⟩) hS (fun q _ h => hF q h) hF (fun q _ h => hF q h) (fun E9 ce9 q9 u9 t9 H9 locs9 ht9 hvm9 hpx9 hBX9 hz9 hk9 hS9 hc9 hv9 hcl9 => ?_) (fun r_57 u_61 t_60 H_58 locs_59 ht hvm hr_57 hB hz1 hk1 hS => ?_)
                    · obtain ⟨hE9, hW9⟩ := hBX9
                      exact False.elim (hE9.2 hg7)
                    skip
                    replace hB : va_P D vwCl [] H_58 := by rw [← ht]; exact hB
                    obtain ⟨hP, hD⟩ := q_join (wc := []) (w1 := []) (ws' := [(xo, .inr (8, [.ref gg, .ref tr, .ref ti, .ref s2, .ref s3, .ref n2])), (gg, .inr (1, [.ref gr])), (gr, .inr (2, [.ref ce])), (ce, .inl (cG, 121, .inl fc1)), (tr, .inr (5, [.ref sh])), (sh, .inr (4, [.ref ar, .int (nI n)])), (ar, .inl (cS, 40, .inr (.inr (.inr (.inr f))))), (ti, .inr (6, [.ref n1])), (n1, .inr (3, [.ref l1, .int z1])), (l1, .inl (cJ1, 401, .inr (.inl fN))), (s2, .inr (4, [.ref a2, .int (nI m)])), (a2, .inl (cS2, 40, .inr (.inr (.inr (.inr fk))))), (s3, .inr (4, [.ref a3, .int z3])), (a3, .inl (cS3, 40, .inr (.inr (.inr (.inr fr))))), (n2, .inr (3, [.ref l2, .int z2])), (l2, .inl (cJ2, 56, .inr (.inl fs)))] ++ (EW ea wa pf cn dp oc ic lf pt n ++ WW wa wd n)) [] hP hD rfl rfl hk1 hB rfl
                    have hR := q_ro hR0 hna hS
                    obtain ⟨rfl, f_r_57⟩ := hr_57
                    refine q_cvi (show (dpv dp (ffi (fun k => decide (wd k = (wd q7))) n)) = (nI (dp q7)) from (by rw [ffi_wd hwi (show q7 < n by omega)]; rfl)) ?_
                    refine lv_aload_n hx hb dL_areWordsSo_244 rfl (lv_at hl 7 rfl) ?_
                    refine lv_lload hx hb dL_areWordsSo_245 (lv_at hl 4 rfl) ?_
                    have hF := va_free (wc := []) hD hS hA [] rfl
                    refine vx_calli (vx_runV (As := [.long (lN (wd (ki j)))]) (rest := [.int (nI (dp q7))]) ⟨hx, hb, hml, hown, hts⟩ (c_X9_treeDepth (l := l) (D := D) (xo := xo) (gg := gg) (gr := gr) (ce := ce) (tr := tr) (sh := sh) (ar := ar) (ti := ti) (n1 := n1) (l1 := l1) (s2 := s2) (a2 := a2) (s3 := s3) (a3 := a3) (n2 := n2) (l2 := l2) (cS := cS) (f := f) (ea := ea) (wa := wa) (pf := pf) (cn := cn) (dp := dp) (oc := oc) (ic := ic) (lf := lf) (pt := pt) (wd := wd) (n := n) (a := wd (ki j)) (sz := H_58.size) (hnd := (q_ndt (q_ndsw (q_ndg (l1 := [xo, gg, gr, ce, tr, sh, ar, ti, n1, l1, s2, a2, s3, a3, n2, l2] ++ (rg ea n ++ rg wa n)) (l2 := []) hD hnR hna (by rw [List.map_append, List.map_append, EW_fst, WW_fst]; rfl) rfl)) [0, 4, 5, 6] rfl rfl)) (hst := hst) (ha := haj) (hfe := hfe) (hn40 := hn40) (hg := hg)) (cwV 1 hts gL_areWordsSo_X9_treeDepth rfl rfl rfl (by decide +kernel) ⟨Nat.le_of_ble_eq_true rfl, Nat.le_of_ble_eq_true rfl⟩) ⟨qWx_blind, (va_recv hK hP (ci := 8) (q0 := 0) rfl rfl), (qWx_of (va_P.app (hP.sub (ws' := [(xo, .inr (8, [.ref gg, .ref tr, .ref ti, .ref s2, .ref s3, .ref n2])), (tr, .inr (5, [.ref sh])), (sh, .inr (4, [.ref ar, .int (nI n)])), (ar, .inl (cS, 40, .inr (.inr (.inr (.inr f)))))]) [0, 4, 5, 6] rfl) (q_right hP)) (q_Pof (fun _ h => absurd h List.not_mem_nil)) (hK.sub (tys' := [(cS, .object "FuzzyFens$Entry")]) [1] rfl) hNw (qZ_at hZ hS (fun q h => hF q h)) hXt)⟩ rfl rfl hl.1 rfl (lv_room (Nat.le_of_ble_eq_true rfl)) dL_areWordsSo_247 ⟨Nat.le_trans (Nat.add_le_add_right (Nat.add_le_add_right (Nat.add_le_add_right (Nat.add_le_add_right (Nat.add_le_add_right (Nat.add_le_add_right hcC_7 1) 1) 1) 1) 1) 1) (Nat.le_of_ble_eq_true rfl), Nat.le_trans (Nat.add_le_add_right (Nat.add_le_add_right (Nat.add_le_add_right (Nat.add_le_add_right (Nat.add_le_add_right (Nat.add_le_add_right hcS_7 6) 6) 6) 6) 6) 6) (Nat.le_of_ble_eq_true rfl)⟩) hS (fun q _ h => hF q h) hF (fun q _ h => hF q h) (fun E9 ce9 q9 u9 t9 H9 locs9 ht9 hvm9 hpx9 hBX9 hz9 hk9 hS9 hc9 hv9 hcl9 => ?_) (fun r_62 u_66 t_65 H_63 locs_64 ht hvm hr_62 hB hz1 hk1 hS => ?_)
                    · obtain ⟨hE9, hW9⟩ := hBX9
                      exact False.elim (hE9.2 hgj)
                    skip
                    replace hB : va_P D vwCl [] H_63 := by rw [← ht]; exact hB
                    obtain ⟨hP, hD⟩ := q_join (wc := []) (w1 := []) (ws' := [(xo, .inr (8, [.ref gg, .ref tr, .ref ti, .ref s2, .ref s3, .ref n2])), (gg, .inr (1, [.ref gr])), (gr, .inr (2, [.ref ce])), (ce, .inl (cG, 121, .inl fc1)), (tr, .inr (5, [.ref sh])), (sh, .inr (4, [.ref ar, .int (nI n)])), (ar, .inl (cS, 40, .inr (.inr (.inr (.inr f))))), (ti, .inr (6, [.ref n1])), (n1, .inr (3, [.ref l1, .int z1])), (l1, .inl (cJ1, 401, .inr (.inl fN))), (s2, .inr (4, [.ref a2, .int (nI m)])), (a2, .inl (cS2, 40, .inr (.inr (.inr (.inr fk))))), (s3, .inr (4, [.ref a3, .int z3])), (a3, .inl (cS3, 40, .inr (.inr (.inr (.inr fr))))), (n2, .inr (3, [.ref l2, .int z2])), (l2, .inl (cJ2, 56, .inr (.inl fs)))] ++ (EW ea wa pf cn dp oc ic lf pt n ++ WW wa wd n)) [] hP hD rfl rfl hk1 hB rfl
                    have hR := q_ro hR0 hna hS
                    obtain ⟨rfl, f_r_62⟩ := hr_62
                    refine q_cvi (show (dpv dp (ffi (fun k => decide (wd k = (wd (ki j)))) n)) = (nI (dp (ki j))) from (by rw [ffi_wd hwi hkj]; rfl)) ?_
                    have hd7 := (hdp _ hkj).2 q7 e_p
                    have hd40 := hdb _ hkj
                    refine lv_iconst (v := nI 1) hx hb dL_areWordsSo_250 (by decide) ?_
                    refine q_isub (d := dp (ki j) - 1) hx hb dL_areWordsSo_251 (by omega) ?_
                    refine q_icmp_ne (a := dp q7) (b := dp (ki j) - 1) (tgt := 267) hx hb dL_areWordsSo_252 (by decide) (by omega) (by omega) (fun c_252 => False.elim (by omega)) (fun c_252 => ?_)
                    refine lv_aload_n hx hb dL_areWordsSo_255 rfl (lv_at hl 7 rfl) ?_
                    refine lv_lload hx hb dL_areWordsSo_256 (lv_at hl 0 rfl) ?_
                    refine q_cvl (show (lnn wd (pi (ki j))) = (lN (wd q7)) from (lnn_s e_p)) ?_
                    refine lv_lload hx hb dL_areWordsSo_258 (lv_at hl 4 rfl) ?_
                    have hF := va_free (wc := [(ce, .inl (cG, 121, .inl fc1))]) hD hS hA [3] rfl
                    refine vx_calli (vx_runV (As := [.long (lN (wd q7)), .long (lN (wd (ki j)))]) (rest := []) ⟨hx, hb, hml, hown, hts⟩ (c_X9_distance (l := l) (D := D) (xo := xo) (gg := gg) (gr := gr) (ce := ce) (tr := tr) (sh := sh) (ar := ar) (ti := ti) (n1 := n1) (l1 := l1) (s2 := s2) (a2 := a2) (s3 := s3) (a3 := a3) (n2 := n2) (l2 := l2) (cG := cG) (fc := fc1) (a := wd q7) (b := wd (ki j)) (sz := H_63.size) (hnd := (q_nds (q_ndl (q_ndsw (q_ndg (l1 := [xo, gg, gr, ce, tr, sh, ar, ti, n1, l1, s2, a2, s3, a3, n2, l2] ++ (rg ea n ++ rg wa n)) (l2 := []) hD hnR hna (by rw [List.map_append, List.map_append, EW_fst, WW_fst]; rfl) rfl))) [3, 0, 1, 2] rfl rfl)) (hst := hst) (ha := by omega) (hb9 := haj)) (cwV 2 hts gL_areWordsSo_X9_distance rfl rfl rfl (by decide +kernel) ⟨Nat.le_of_ble_eq_true rfl, Nat.le_of_ble_eq_true rfl⟩) ⟨qWx_blind, (va_recv hK hP (ci := 8) (q0 := 0) rfl rfl), (qWx_of (hP.sub (ws' := [(xo, .inr (8, [.ref gg, .ref tr, .ref ti, .ref s2, .ref s3, .ref n2])), (gg, .inr (1, [.ref gr])), (gr, .inr (2, [.ref ce]))]) [0, 1, 2] rfl) (hP.sub (ws' := [(ce, .inl (cG, 121, .inl fc1))]) [3] rfl) (hK.sub (tys' := [(cG, .int)]) [0] rfl) hNw (qZ_at hZ hS (fun q h => hF q h)) hXt)⟩ rfl rfl hl.1 rfl (lv_room (Nat.le_of_ble_eq_true rfl)) dL_areWordsSo_260 ⟨Nat.le_trans (Nat.add_le_add_right (Nat.add_le_add_right (Nat.add_le_add_right (Nat.add_le_add_right (Nat.add_le_add_right (Nat.add_le_add_right (Nat.add_le_add_right hcC_7 1) 1) 1) 1) 1) 1) 2) (Nat.le_of_ble_eq_true rfl), Nat.le_trans (Nat.add_le_add_right (Nat.add_le_add_right (Nat.add_le_add_right (Nat.add_le_add_right (Nat.add_le_add_right (Nat.add_le_add_right (Nat.add_le_add_right hcS_7 6) 6) 6) 6) 6) 6) 12) (Nat.le_of_ble_eq_true rfl)⟩) hS (fun q _ h => hF q h) hF (fun q _ h => hF q h) (fun E9 ce9 q9 u9 t9 H9 locs9 ht9 hvm9 hpx9 hBX9 hz9 hk9 hS9 hc9 hv9 hcl9 => ?_) (fun r_67 u_71 t_70 H_68 locs_69 ht hvm hr_67 hB hz1 hk1 hS => ?_)
                    · obtain ⟨hE9, hW9⟩ := hBX9
                      exact False.elim (hE9.2 ⟨hg7, hgj⟩)
                    skip
                    obtain ⟨fc2_72, rfl⟩ : ∃ z, z = u_71 := ⟨_, rfl⟩
                    replace hB : va_P D vwCl [(ce, .inl (cG, 121, .inl fc2_72))] H_68 := by rw [← ht]; exact hB
                    obtain ⟨hP, hD⟩ := q_join (wc := [(ce, .inl (cG, 121, .inl fc1))]) (w1 := [(ce, .inl (cG, 121, .inl fc2_72))]) (ws' := [(xo, .inr (8, [.ref gg, .ref tr, .ref ti, .ref s2, .ref s3, .ref n2])), (gg, .inr (1, [.ref gr])), (gr, .inr (2, [.ref ce])), (ce, .inl (cG, 121, .inl fc2_72)), (tr, .inr (5, [.ref sh])), (sh, .inr (4, [.ref ar, .int (nI n)])), (ar, .inl (cS, 40, .inr (.inr (.inr (.inr f))))), (ti, .inr (6, [.ref n1])), (n1, .inr (3, [.ref l1, .int z1])), (l1, .inl (cJ1, 401, .inr (.inl fN))), (s2, .inr (4, [.ref a2, .int (nI m)])), (a2, .inl (cS2, 40, .inr (.inr (.inr (.inr fk))))), (s3, .inr (4, [.ref a3, .int z3])), (a3, .inl (cS3, 40, .inr (.inr (.inr (.inr fr))))), (n2, .inr (3, [.ref l2, .int z2])), (l2, .inl (cJ2, 56, .inr (.inl fs)))] ++ (EW ea wa pf cn dp oc ic lf pt n ++ WW wa wd n)) [3] hP hD rfl rfl hk1 hB rfl
                    have hR := q_ro hR0 hna hS
                    obtain ⟨rfl, f_r_67⟩ := hr_67
                    refine q_cvi (show (nI (lev (ltz (wd q7)) (ltz (wd (ki j))) (wl (wd q7)) (wl (wd (ki j))))) = (nI (dst wd (wd q7) (ki j))) from rfl) ?_
                    have hd20 := dst_20 (wd := wd) (a := wd q7) (q := ki j) (gw_wl hg7) (gw_wl hgj)
                    refine lv_iconst (v := nI 1) hx hb dL_areWordsSo_263 (by decide) ?_
                    refine q_icmp_ge (a := dst wd (wd q7) (ki j)) (b := 1) (tgt := 269) hx hb dL_areWordsSo_264 (by decide) (by omega) (by decide) (fun c_264 => ?_) (fun c_264 => False.elim (by have h9 := (dst_0 (wd := wd) (v := wd q7) (i := ki j)).mp (by omega); have := hwi q7 (ki j) (by omega) hkj h9; omega))
                    refine lv_lload hx hb dL_areWordsSo_269 (lv_at hl 4 rfl) ?_
                    refine lv_lstore_n (lv' := [(2, .long (lN (wd (ki j)))), (13, .long (lnn wd (pi (ki j)))), (1, .int (nI (tnd wd ki (j + 1)))), (12, .int (nI q)), (7, .long (lN (al (wd (ki j))))), (5, .long (lN (wd (ki j)))), (4, .int (nI j)), (0, .ref xo), (9, .long (lN (alb wd ki j))), (11, .int (nI s9))]) hx hb dL_areWordsSo_271 rfl hl (by decide) rfl (fun ls hl => ?_)
                    refine lv_iinc (v := nI (j + 1)) (lv' := [(4, .int (nI (j + 1))), (2, .long (lN (wd (ki j)))), (13, .long (lnn wd (pi (ki j)))), (1, .int (nI (tnd wd ki (j + 1)))), (12, .int (nI q)), (7, .long (lN (al (wd (ki j))))), (5, .long (lN (wd (ki j)))), (0, .ref xo), (9, .long (lN (alb wd ki j))), (11, .int (nI s9))]) hx hb dL_areWordsSo_272 hl (k := 6) rfl (q_inc (k := 1) (by omega)) (by decide) rfl (fun ls hl => ?_)
                    refine lv_goto (tgt := 7) hx hb dL_areWordsSo_275 (by decide) ?_
                    exact ih_7 (j + 1, fc2_72) _ _ _ _ _ ⟨(by omega), hP, hD, hS, (lv_sub hl [0, 1, 3, 7] rfl)⟩ (by show m - (j + 1) < m - j; omega) (by show _ ≤ 0 + 16 * ((j + 1)); omega) (by show _ ≤ 0 + 96 * ((j + 1)); omega)
          · intro hcut_168
            refine lv_iload hx hb dL_areWordsSo_154 (lv_at hl 9 rfl) ?_
            refine lv_iload hx hb dL_areWordsSo_156 (lv_at hl 1 rfl) ?_
            refine q_icmp_ge (a := s9) (b := q) (tgt := 166) hx hb dL_areWordsSo_158 (by decide) (by omega) (by omega) (fun c_158 => ?_) (fun c_158 => ?_)
            · skip
              refine lv_iload hx hb dL_areWordsSo_166 (lv_at hl 1 rfl) ?_
              exact hcut_168 q _ _ _ _ ⟨(by omega), rfl, rfl, (lv_sub hl [0, 1, 2, 3, 4, 5, 6, 7, 8, 9] rfl), rfl⟩
            · skip
              refine lv_iload hx hb dL_areWordsSo_161 (lv_at hl 9 rfl) ?_
              refine lv_goto (tgt := 168) hx hb dL_areWordsSo_163 (by decide) ?_
              exact hcut_168 s9 _ _ _ _ ⟨(by omega), rfl, rfl, (lv_sub hl [0, 1, 2, 3, 4, 5, 6, 7, 8, 9] rfl), rfl⟩
        · skip
          refine lv_iinc (v := nI (q + 1)) (lv' := [(12, .int (nI (q + 1))), (13, .long (lN r)), (7, .long (lN (al (wd (ki j))))), (5, .long (lN (wd (ki j)))), (4, .int (nI j)), (2, .long (lN (bfr wd ki j))), (1, .int (nI (tnd wd ki j))), (0, .ref xo), (9, .long (lN (alb wd ki j))), (11, .int (nI s9))]) hx hb dL_areWordsSo_139 hl (k := 1) rfl (q_inc (k := 1) (by omega)) (by decide) rfl (fun ls hl => ?_)
          refine lv_lload hx hb dL_areWordsSo_142 (lv_at hl 1 rfl) ?_
          refine lv_iconst (v := nI 5) hx hb dL_areWordsSo_144 (by decide) ?_
          refine lv_lshr (v := lN (r / 32)) hx hb dL_areWordsSo_145 (q_lshr1 (by omega)) ?_
          refine lv_lstore (lv' := [(13, .long (lN (r / 32))), (12, .int (nI (q + 1))), (7, .long (lN (al (wd (ki j))))), (5, .long (lN (wd (ki j)))), (4, .int (nI j)), (2, .long (lN (bfr wd ki j))), (1, .int (nI (tnd wd ki j))), (0, .ref xo), (9, .long (lN (alb wd ki j))), (11, .int (nI s9))]) hx hb dL_areWordsSo_146 hl (by decide) rfl (fun ls hl => ?_)
          refine lv_goto (tgt := 132) hx hb dL_areWordsSo_148 (by decide) ?_
          exact ih_132 (r / 32, q + 1) _ _ _ ⟨(by have := wl_s c_136.1; omega), (by omega), rfl, rfl, (lv_sub hl [0, 1, 2, 3, 4, 5, 6, 7, 8, 9] rfl)⟩ (by show (r / 32) < r; omega)
      · intro hcut_125
        have ha50 := al_lt (gw_wl hgj)
        have hb50 := alb_50 (ki := ki) hgm (show j < m by omega)
        refine lv_istore (lv' := [(11, .int (nI 0)), (7, .long (lN (al (wd (ki j))))), (5, .long (lN (wd (ki j)))), (4, .int (nI j)), (2, .long (lN (bfr wd ki j))), (1, .int (nI (tnd wd ki j))), (0, .ref xo), (9, .long (lN (alb wd ki j)))]) hx hb dL_areWordsSo_79 hl (by decide) rfl (fun ls hl => ?_)
        refine q_loop (fun (x : (Nat)) (Hc : Heap) (Lc : List Loc) (ls : Array Slot) => match x with | s3 => (smi wd ki j s3) ∧ H_7 = Hc ∧ locs_8 = Lc ∧ lv_has ls 15 [(11, .int (nI s3)), (7, .long (lN (al (wd (ki j))))), (5, .long (lN (wd (ki j)))), (4, .int (nI j)), (2, .long (lN (bfr wd ki j))), (1, .int (nI (tnd wd ki j))), (0, .ref xo), (9, .long (lN (alb wd ki j)))]) (fun (x : (Nat)) => match x with | s3 => 10 - s3) 0 ⟨(smi_0 hgm (by omega)), rfl, rfl, (lv_sub hl [0, 1, 2, 3, 4, 5, 6, 7] rfl)⟩ ?_
        clear hl
        rintro s3 Hc Lc ls hI ih_81
        obtain ⟨hs3, rfl, rfl, hl⟩ := hI
        have hs10 := hs3.1
        refine lv_iload hx hb dL_areWordsSo_81 (lv_at hl 0 rfl) ?_
        refine lv_bipush (v := nI 10) hx hb dL_areWordsSo_83 (by decide) ?_
        refine q_icmp_ge (a := s3) (b := 10) (tgt := 125) hx hb dL_areWordsSo_85 (by decide) (by omega) (by decide) (fun c_85 => ?_) (fun c_85 => ?_)
        · skip
          exact hcut_125 s3 _ _ _ _ ⟨(smi_e hgm (by omega) hs3 (Or.inl c_85)), (by omega), rfl, rfl, (lv_sub hl [1, 2, 3, 4, 5, 6, 7, 0] rfl), rfl⟩
        · skip
          refine lv_lload hx hb dL_areWordsSo_88 (lv_at hl 7 rfl) ?_
          refine lv_lconst (v := lN 0) hx hb dL_areWordsSo_90 (by decide) ?_
          refine W.lcmp hx hb dL_areWordsSo_91 ?_
          refine q_lz_le (a := alb wd ki j) (tgt := 125) hx hb dL_areWordsSo_92 (by decide) (by omega) (fun c_92 => ?_) (fun c_92 => ?_)
          · skip
            exact hcut_125 s3 _ _ _ _ ⟨(smi_e hgm (by omega) hs3 (Or.inr (Or.inl c_92))), (by omega), rfl, rfl, (lv_sub hl [1, 2, 3, 4, 5, 6, 7, 0] rfl), rfl⟩
          · skip
            have hd1 := Nat.div_le_self (al (wd (ki j))) (32 ^ (9 - s3))
            have hd2 := Nat.div_le_self (alb wd ki j) (32 ^ (9 - s3))
            refine lv_lload hx hb dL_areWordsSo_95 (lv_at hl 1 rfl) ?_
            refine lv_bipush (v := nI 45) hx hb dL_areWordsSo_97 (by decide) ?_
            refine lv_iconst (v := nI 5) hx hb dL_areWordsSo_99 (by decide) ?_
            refine lv_iload hx hb dL_areWordsSo_100 (lv_at hl 0 rfl) ?_
            refine q_imul (d := 5 * s3) hx hb dL_areWordsSo_102 (by omega) ?_
            refine q_isub (d := 45 - 5 * s3) hx hb dL_areWordsSo_103 (by omega) ?_
            refine lv_lshr (v := lN (al (wd (ki j)) / 32 ^ (9 - s3))) hx hb dL_areWordsSo_104 (q_lshr5 (by omega) (by omega) (by omega)) ?_
            refine lv_lload hx hb dL_areWordsSo_105 (lv_at hl 7 rfl) ?_
            refine lv_bipush (v := nI 45) hx hb dL_areWordsSo_107 (by decide) ?_
            refine lv_iconst (v := nI 5) hx hb dL_areWordsSo_109 (by decide) ?_
            refine lv_iload hx hb dL_areWordsSo_110 (lv_at hl 0 rfl) ?_
            refine q_imul (d := 5 * s3) hx hb dL_areWordsSo_112 (by omega) ?_
            refine q_isub (d := 45 - 5 * s3) hx hb dL_areWordsSo_113 (by omega) ?_
            refine lv_lshr (v := lN (alb wd ki j / 32 ^ (9 - s3))) hx hb dL_areWordsSo_114 (q_lshr5 (by omega) (by omega) (by omega)) ?_
            refine W.lcmp hx hb dL_areWordsSo_115 ?_
            refine q_lc_ne (a := al (wd (ki j)) / 32 ^ (9 - s3)) (b := alb wd ki j / 32 ^ (9 - s3)) (tgt := 125) hx hb dL_areWordsSo_116 (by decide) (by omega) (by omega) (fun c_116 => ?_) (fun c_116 => ?_)
            · skip
              exact hcut_125 s3 _ _ _ _ ⟨(smi_e hgm (by omega) hs3 (Or.inr (Or.inr c_116))), (by omega), rfl, rfl, (lv_sub hl [1, 2, 3, 4, 5, 6, 7, 0] rfl), rfl⟩
            · skip
              refine lv_iinc (v := nI (s3 + 1)) (lv' := [(11, .int (nI (s3 + 1))), (7, .long (lN (al (wd (ki j))))), (5, .long (lN (wd (ki j)))), (4, .int (nI j)), (2, .long (lN (bfr wd ki j))), (1, .int (nI (tnd wd ki j))), (0, .ref xo), (9, .long (lN (alb wd ki j)))]) hx hb dL_areWordsSo_119 hl (k := 0) rfl (q_inc (k := 1) (by omega)) (by decide) rfl (fun ls hl => ?_)
              refine lv_goto (tgt := 81) hx hb dL_areWordsSo_122 (by decide) ?_
              exact ih_81 (s3 + 1) _ _ _ ⟨(smi_s hs3 c_85 c_92.1 c_116), rfl, rfl, (lv_sub hl [0, 1, 2, 3, 4, 5, 6, 7] rfl)⟩ (by show 10 - (s3 + 1) < 10 - s3; omega)
    · intro hcut_78
      refine lv_lload_n hx hb dL_areWordsSo_28 rfl (lv_at hl 3 rfl) ?_
      refine q_cvl (show (lN (bfr wd ki j)) = (lN ((bfr wd ki j) * (32 ^ 0))) from (by rw [Nat.pow_zero, Nat.mul_one])) ?_
      refine lv_lstore (lv' := [(9, .long (lN ((bfr wd ki j) * (32 ^ 0)))), (7, .long (lN ((wd (ki j)) * (32 ^ 0)))), (5, .long (lN (wd (ki j)))), (4, .int (nI j)), (2, .long (lN (bfr wd ki j))), (1, .int (nI (tnd wd ki j))), (0, .ref xo)]) hx hb dL_areWordsSo_29 hl (by decide) rfl (fun ls hl => ?_)
      refine q_loop (fun (x : (Nat)) (Hc : Heap) (Lc : List Loc) (ls : Array Slot) => match x with | c => (wl (wd (ki j)) + c ≤ 10) ∧ H_7 = Hc ∧ locs_8 = Lc ∧ lv_has ls 15 [(9, .long (lN ((bfr wd ki j) * (32 ^ 0)))), (7, .long (lN ((wd (ki j)) * (32 ^ c)))), (5, .long (lN (wd (ki j)))), (4, .int (nI j)), (2, .long (lN (bfr wd ki j))), (1, .int (nI (tnd wd ki j))), (0, .ref xo)]) (fun (x : (Nat)) => match x with | c => 10 - c) 0 ⟨(by have := gw_wl hgj; omega), rfl, rfl, (lv_sub hl [0, 1, 2, 3, 4, 5, 6] rfl)⟩ ?_
      clear hl
      rintro c Hc Lc ls hI ih_31
      obtain ⟨hc, rfl, rfl, hl⟩ := hI
      have hm50 := al_top hc
      refine lv_lload hx hb dL_areWordsSo_31 (lv_at hl 1 rfl) ?_
      refine lv_ldc2 (v := 35184372088832) hx hb hown (hts (.constantLong RL 55 (35184372088832)) (List.mem_of_getElem? (i := 1) rfl)) dL_areWordsSo_33 ?_
      refine q_cvl (show (35184372088832 : Int64) = lN 35184372088832 by decide) ?_
      refine W.lcmp hx hb dL_areWordsSo_36 ?_
      refine q_lc_ge (a := (wd (ki j)) * (32 ^ c)) (b := 35184372088832) (tgt := 51) hx hb dL_areWordsSo_37 (by decide) (by omega) (by decide) (fun c_37 => ?_) (fun c_37 => ?_)
      · skip
        have hme : wd (ki j) * 32 ^ c = al (wd (ki j)) := al_end hgj hc c_37
        rw [hme] at hl
        refine q_loop (fun (x : (Nat)) (Hc : Heap) (Lc : List Loc) (ls : Array Slot) => match x with | c2 => (bfo wd ki j c2) ∧ H_7 = Hc ∧ locs_8 = Lc ∧ lv_has ls 15 [(9, .long (lN ((bfr wd ki j) * (32 ^ c2)))), (7, .long (lN (al (wd (ki j))))), (5, .long (lN (wd (ki j)))), (4, .int (nI j)), (2, .long (lN (bfr wd ki j))), (1, .int (nI (tnd wd ki j))), (0, .ref xo)]) (fun (x : (Nat)) => match x with | c2 => 10 - c2) 0 ⟨(bfo_0 hgm (by omega)), rfl, rfl, (lv_sub hl [0, 1, 2, 3, 4, 5, 6] rfl)⟩ ?_
        clear hl
        rintro c2 Hc Lc ls hI ih_51
        obtain ⟨hc2, rfl, rfl, hl⟩ := hI
        have hb50 := bfo_50 hc2
        refine lv_lload hx hb dL_areWordsSo_51 (lv_at hl 0 rfl) ?_
        refine lv_lconst (v := lN 0) hx hb dL_areWordsSo_53 (by decide) ?_
        refine W.lcmp hx hb dL_areWordsSo_54 ?_
        refine q_lz_le (a := (bfr wd ki j) * (32 ^ c2)) (tgt := 78) hx hb dL_areWordsSo_55 (by decide) (by omega) (fun c_55 => ?_) (fun c_55 => ?_)
        · skip
          exact hcut_78 () _ _ _ _ ⟨rfl, rfl, (by rw [alb_z hc2 c_55]; exact lv_sub hl [1, 2, 3, 4, 5, 6, 0] rfl), rfl⟩
        · skip
          refine lv_lload hx hb dL_areWordsSo_58 (lv_at hl 0 rfl) ?_
          refine lv_ldc2 (v := 35184372088832) hx hb hown (hts (.constantLong RL 55 (35184372088832)) (List.mem_of_getElem? (i := 1) rfl)) dL_areWordsSo_60 ?_
          refine q_cvl (show (35184372088832 : Int64) = lN 35184372088832 by decide) ?_
          refine W.lcmp hx hb dL_areWordsSo_63 ?_
          refine q_lc_ge (a := (bfr wd ki j) * (32 ^ c2)) (b := 35184372088832) (tgt := 78) hx hb dL_areWordsSo_64 (by decide) (by omega) (by decide) (fun c_64 => ?_) (fun c_64 => ?_)
          · skip
            exact hcut_78 () _ _ _ _ ⟨rfl, rfl, (by rw [alb_e hc2 c_64]; exact lv_sub hl [1, 2, 3, 4, 5, 6, 0] rfl), rfl⟩
          · skip
            refine lv_lload hx hb dL_areWordsSo_67 (lv_at hl 0 rfl) ?_
            refine lv_ldc2 (v := 32) hx hb hown (hts (.constantLong RL 29 (32)) (List.mem_of_getElem? (i := 2) rfl)) dL_areWordsSo_69 ?_
            refine q_cvl (show (32 : Int64) = lN 32 by decide) ?_
            refine lv_lmul hx hb dL_areWordsSo_72 ?_
            refine q_cvl (show ((lN ((bfr wd ki j) * (32 ^ c2))) * (lN 32)) = (lN ((bfr wd ki j) * (32 ^ (c2 + 1)))) from q_m32) ?_
            refine lv_lstore (lv' := [(9, .long (lN ((bfr wd ki j) * (32 ^ (c2 + 1))))), (7, .long (lN (al (wd (ki j))))), (5, .long (lN (wd (ki j)))), (4, .int (nI j)), (2, .long (lN (bfr wd ki j))), (1, .int (nI (tnd wd ki j))), (0, .ref xo)]) hx hb dL_areWordsSo_73 hl (by decide) rfl (fun ls hl => ?_)
            refine lv_goto (tgt := 51) hx hb dL_areWordsSo_75 (by decide) ?_
            exact ih_51 (c2 + 1) _ _ _ ⟨(bfo_s hc2 c_64), rfl, rfl, (lv_sub hl [0, 1, 2, 3, 4, 5, 6] rfl)⟩ (by show 10 - (c2 + 1) < 10 - c2; have := al_more (hc2 (by refine Nat.pos_of_ne_zero (fun h9 => ?_); rw [h9] at c_55; exact absurd c_55.1 (by show ¬ 0 < 0 * _; rw [Nat.zero_mul]; omega))).1 c_64; omega)
      · skip
        refine lv_lload hx hb dL_areWordsSo_40 (lv_at hl 1 rfl) ?_
        refine lv_ldc2 (v := 32) hx hb hown (hts (.constantLong RL 29 (32)) (List.mem_of_getElem? (i := 2) rfl)) dL_areWordsSo_42 ?_
        refine q_cvl (show (32 : Int64) = lN 32 by decide) ?_
        refine lv_lmul hx hb dL_areWordsSo_45 ?_
        refine q_cvl (show ((lN ((wd (ki j)) * (32 ^ c))) * (lN 32)) = (lN ((wd (ki j)) * (32 ^ (c + 1)))) from q_m32) ?_
        refine lv_lstore (lv' := [(7, .long (lN ((wd (ki j)) * (32 ^ (c + 1))))), (9, .long (lN ((bfr wd ki j) * (32 ^ 0)))), (5, .long (lN (wd (ki j)))), (4, .int (nI j)), (2, .long (lN (bfr wd ki j))), (1, .int (nI (tnd wd ki j))), (0, .ref xo)]) hx hb dL_areWordsSo_46 hl (by decide) rfl (fun ls hl => ?_)
        refine lv_goto (tgt := 31) hx hb dL_areWordsSo_48 (by decide) ?_
        exact ih_31 (c + 1) _ _ _ ⟨(by have := al_more hgj c_37; omega), rfl, rfl, (lv_sub hl [1, 0, 2, 3, 4, 5, 6] rfl)⟩ (by show 10 - (c + 1) < 10 - c; have := al_more hgj c_37; omega)
