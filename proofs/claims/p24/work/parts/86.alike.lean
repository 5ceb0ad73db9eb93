/-! two objects in the same state answer alike -/
theorem kz_nI {j : Nat} (h : j < 2 ^ 31) : kz (nI j) = j := by
  unfold kz
  rw [nI_toInt h]; omega
theorem q_rng {j m : Nat} (h : j < m) (hm : m ≤ 40) : 0 ≤ nI j ∧ nI j < nI m :=
  ⟨(nI_leI (a := 0) (by decide) (by omega)).mpr (Nat.zero_le j), (nI_ltI (by omega) (by omega)).mpr h⟩
theorem q_okk {k m : Nat} (h : k ≤ m) (hm : m ≤ 1000) : 0 ≤ nI k ∧ nI k ≤ nI m :=
  ⟨(nI_leI (a := 0) (by decide) (by omega)).mpr (Nat.zero_le k), (nI_leI (by omega) (by omega)).mpr h⟩
theorem q_nd2l {a b t u : List Nat} (h : (a ++ (b ++ (t ++ u))).Nodup) : (a ++ (b ++ t)).Nodup := by
  have h2 : (a ++ (b ++ (t ++ u))) = (a ++ (b ++ t)) ++ u := by simp only [List.append_assoc]
  rw [h2] at h
  exact (List.nodup_append.mp h).1
theorem q_nd2r {a b t u : List Nat} (h : (a ++ (b ++ (t ++ u))).Nodup) : (a ++ (b ++ u)).Nodup := by
  have hp : List.Perm (a ++ (b ++ (t ++ u))) (t ++ (a ++ (b ++ u))) := by
    have e1 : List.Perm (b ++ (t ++ u)) (t ++ (b ++ u)) := by
      rw [← List.append_assoc, ← List.append_assoc]
      exact List.Perm.append_right u List.perm_append_comm
    have e2 : a ++ (t ++ (b ++ u)) = (a ++ t) ++ (b ++ u) := (List.append_assoc a t (b ++ u)).symm
    have e3 : t ++ (a ++ (b ++ u)) = (t ++ a) ++ (b ++ u) := (List.append_assoc t a (b ++ u)).symm
    refine (List.Perm.append_left a e1).trans ?_
    rw [e2, e3]
    exact List.Perm.append_right (b ++ u) List.perm_append_comm
  exact (List.nodup_append.mp (hp.nodup_iff.mp h)).2.1
set_option maxHeartbeats 4000000 in
set_option maxRecDepth 100000 in
/-- areAlike -/
theorem c_L_areAlike (l : Launch) (D : va_G) (sz : Nat) (xo : Nat) (gg : Nat) (gr : Nat) (ce : Nat) (tr : Nat) (sh : Nat) (ar : Nat) (ti : Nat) (n1 : Nat) (l1 : Nat) (s2 : Nat) (a2 : Nat) (s3 : Nat) (a3 : Nat) (n2 : Nat) (l2 : Nat) (cS : ClassId) (f : Nat → Option Nat) (cS2 : ClassId) (fk : Nat → Option Nat) (m : Nat) (ki : Nat → Nat) (ea : Nat → Nat) (wa : Nat → Nat) (pf : Nat → Option Nat) (cn : Nat → Nat) (dp : Nat → Nat) (oc : Nat → Nat) (ic : Nat → Int32) (lf : Nat → Int32) (pt : Nat → Int32) (wd : Nat → Nat) (n : Nat) (pi : Nat → Option Nat) (xo7 : Nat) (gg7 : Nat) (gr7 : Nat) (ce7 : Nat) (tr7 : Nat) (sh7 : Nat) (ar7 : Nat) (ti7 : Nat) (n17 : Nat) (l17 : Nat) (s27 : Nat) (a27 : Nat) (s37 : Nat) (a37 : Nat) (n27 : Nat) (l27 : Nat) (cS7 : ClassId) (f7 : Nat → Option Nat) (cS27 : ClassId) (fk7 : Nat → Option Nat) (ea7 : Nat → Nat) (wa7 : Nat → Nat) (pf7 : Nat → Option Nat) (ic7 : Nat → Int32) (lf7 : Nat → Int32) (pt7 : Nat → Int32) (hst : l.stackTraces = false) (hnd : (([] : List Nat) ++ ([xo, tr, sh, ar, s2, a2, xo7, tr7, sh7, ar7, s27, a27] ++ ((rg ea n ++ rg wa n) ++ (rg ea7 n ++ rg wa7 n)))).Nodup) (hm : m ≤ 40) (hf : ∀ j, j < m → fk j = some (ea (ki j))) (hki : ∀ j, j < m → ki j < n) (hfe : ∀ j, j < n → f j = some (ea j)) (hn40 : n ≤ 40) (hg : ∀ k, k < n → gw (wd k)) (hwi : ∀ i j, i < n → j < n → wd i = wd j → i = j) (hob : ∀ k, k < n → oc k ≤ 1000000) (hpi : ∀ k, k < n → pf k = (pi k).map ea) (hpn : ∀ k i, k < n → pi k = some i → i < k) (hf7 : ∀ j, j < m → fk7 j = some (ea7 (ki j))) (hfe7 : ∀ j, j < n → f7 j = some (ea7 j)) (hpi7 : ∀ k, k < n → pf7 k = (pi k).map ea7) : Met l yL_areAlike wsL_areAlike { frames := 8, cells := 328, slots := 1968, locals := 126 } (va_Pc [.ref xo, .ref xo7] (qWx D sz ([(xo, .inr (8, [.ref gg, .ref tr, .ref ti, .ref s2, .ref s3, .ref n2])), (tr, .inr (5, [.ref sh])), (sh, .inr (4, [.ref ar, .int (nI n)])), (ar, .inl (cS, 40, .inr (.inr (.inr (.inr f))))), (s2, .inr (4, [.ref a2, .int (nI m)])), (a2, .inl (cS2, 40, .inr (.inr (.inr (.inr fk))))), (xo7, .inr (8, [.ref gg7, .ref tr7, .ref ti7, .ref s27, .ref s37, .ref n27])), (tr7, .inr (5, [.ref sh7])), (sh7, .inr (4, [.ref ar7, .int (nI n)])), (ar7, .inl (cS7, 40, .inr (.inr (.inr (.inr f7))))), (s27, .inr (4, [.ref a27, .int (nI m)])), (a27, .inl (cS27, 40, .inr (.inr (.inr (.inr fk7)))))] ++ ((EW ea wa pf cn dp oc ic lf pt n ++ WW wa wd n) ++ (EW ea7 wa7 pf7 cn dp oc ic7 lf7 pt7 n ++ WW wa7 wd n))) [] [(cS, .object "FuzzyFens$Entry"), (cS2, .object "FuzzyFens$Entry"), (cS7, .object "FuzzyFens$Entry"), (cS27, .object "FuzzyFens$Entry")])) (va_Qi (fun (rv : Int32) (uv : Unit) => rv = nI 1) (fun (uv : Unit) (tv : State) => va_P D vwCl [] tv.heap) (va_A [] sz)) 328 1968 (va_A [] sz) := by
  refine Met.ofW (cc := cL_areAlike) (maxL := 6) (ret := (some .boolean)) (by decide) rfl ?_
  intro pM eM s mi9 argsM belowM methM cM sM B hml hv
  obtain ⟨rfl, hsz, hR0, hP, hK, hNw, hZ, hXt⟩ := hv
  have hx := B.exec
  have hb := B.bytes
  have hr := B.returns
  have hts := atoms_spec (ws := wsL_areAlike) B.pre
  have hown : s.vm.findClass RL = some mi9.cls := findClass_of_methodNamed B.named
  have hlocks := B.notSynchronized
  subst hsz
  have hna := q_na (RW := []) (RO := [(xo, .inr (8, [.ref gg, .ref tr, .ref ti, .ref s2, .ref s3, .ref n2])), (tr, .inr (5, [.ref sh])), (sh, .inr (4, [.ref ar, .int (nI n)])), (ar, .inl (cS, 40, .inr (.inr (.inr (.inr f))))), (s2, .inr (4, [.ref a2, .int (nI m)])), (a2, .inl (cS2, 40, .inr (.inr (.inr (.inr fk))))), (xo7, .inr (8, [.ref gg7, .ref tr7, .ref ti7, .ref s27, .ref s37, .ref n27])), (tr7, .inr (5, [.ref sh7])), (sh7, .inr (4, [.ref ar7, .int (nI n)])), (ar7, .inl (cS7, 40, .inr (.inr (.inr (.inr f7))))), (s27, .inr (4, [.ref a27, .int (nI m)])), (a27, .inl (cS27, 40, .inr (.inr (.inr (.inr fk7)))))] ++ ((EW ea wa pf cn dp oc ic lf pt n ++ WW wa wd n) ++ (EW ea7 wa7 pf7 cn dp oc ic7 lf7 pt7 n ++ WW wa7 wd n))) hnd rfl (by rw [List.map_append, List.map_append, List.map_append, List.map_append, EW_fst, EW_fst, WW_fst, WW_fst]; rfl) hR0
  have hD := q_D (RW := []) (sz := s.heap.size) hnd rfl
  have hnR : (([(xo, .inr (8, [.ref gg, .ref tr, .ref ti, .ref s2, .ref s3, .ref n2])), (tr, .inr (5, [.ref sh])), (sh, .inr (4, [.ref ar, .int (nI n)])), (ar, .inl (cS, 40, .inr (.inr (.inr (.inr f))))), (s2, .inr (4, [.ref a2, .int (nI m)])), (a2, .inl (cS2, 40, .inr (.inr (.inr (.inr fk))))), (xo7, .inr (8, [.ref gg7, .ref tr7, .ref ti7, .ref s27, .ref s37, .ref n27])), (tr7, .inr (5, [.ref sh7])), (sh7, .inr (4, [.ref ar7, .int (nI n)])), (ar7, .inl (cS7, 40, .inr (.inr (.inr (.inr f7))))), (s27, .inr (4, [.ref a27, .int (nI m)])), (a27, .inl (cS27, 40, .inr (.inr (.inr (.inr fk7)))))] ++ ((EW ea wa pf cn dp oc ic lf pt n ++ WW wa wd n) ++ (EW ea7 wa7 pf7 cn dp oc ic7 lf7 pt7 n ++ WW wa7 wd n)) : va_W).map (·.1)).Nodup := by rw [show ([(xo, .inr (8, [.ref gg, .ref tr, .ref ti, .ref s2, .ref s3, .ref n2])), (tr, .inr (5, [.ref sh])), (sh, .inr (4, [.ref ar, .int (nI n)])), (ar, .inl (cS, 40, .inr (.inr (.inr (.inr f))))), (s2, .inr (4, [.ref a2, .int (nI m)])), (a2, .inl (cS2, 40, .inr (.inr (.inr (.inr fk))))), (xo7, .inr (8, [.ref gg7, .ref tr7, .ref ti7, .ref s27, .ref s37, .ref n27])), (tr7, .inr (5, [.ref sh7])), (sh7, .inr (4, [.ref ar7, .int (nI n)])), (ar7, .inl (cS7, 40, .inr (.inr (.inr (.inr f7))))), (s27, .inr (4, [.ref a27, .int (nI m)])), (a27, .inl (cS27, 40, .inr (.inr (.inr (.inr fk7)))))] ++ ((EW ea wa pf cn dp oc ic lf pt n ++ WW wa wd n) ++ (EW ea7 wa7 pf7 cn dp oc ic7 lf7 pt7 n ++ WW wa7 wd n)) : va_W).map (·.1) = ([xo, tr, sh, ar, s2, a2, xo7, tr7, sh7, ar7, s27, a27] ++ ((rg ea n ++ rg wa n) ++ (rg ea7 n ++ rg wa7 n))) from (by rw [List.map_append, List.map_append, List.map_append, List.map_append, EW_fst, EW_fst, WW_fst, WW_fst]; rfl)]; exact (List.nodup_append.mp hnd).2.1
  have hA : ∀ q : Nat, s.heap.size ≤ q → va_A [] s.heap.size q := fun q h => Or.inr h
  generalize hAe : va_A [] s.heap.size = A at hna hD hA hZ ⊢
  have hS : va_S A s.heap s.heap [] := va_S.rf
  have hR := hR0
  have hP : va_P D vwCl [] s.heap := hP
  have hl := lv_entry ([.ref xo, .ref xo7]) (n := 6) (Nat.le_of_ble_eq_true rfl)
  rw [lg_entry_eq]
  generalize (lg_sl ([.ref xo, .ref xo7]) ++ List.replicate (6 - (lg_sl ([.ref xo, .ref xo7])).length) Slot.unset).toArray = ls at hl ⊢
  have hl : lv_has ls 6 [(0, .ref xo), (1, .ref xo7)] := hl
  refine lv_aload_n hx hb dL_areAlike_0 rfl (lv_at hl 0 rfl) ?_
  refine vp_callSi (W.runV (As := []) (rest := []) ⟨hx, hb, hml, hown, hts⟩ (c_X9_words (l := l) (D := D) (xo := xo) (gg := gg) (gr := gr) (ce := ce) (tr := tr) (sh := sh) (ar := ar) (ti := ti) (n1 := n1) (l1 := l1) (s2 := s2) (a2 := a2) (s3 := s3) (a3 := a3) (n2 := n2) (l2 := l2) (m := m) ) (cwV 0 hts gL_areAlike_X9_words rfl rfl rfl (by decide +kernel) ⟨Nat.le_of_ble_eq_true rfl, Nat.le_of_ble_eq_true rfl⟩) ⟨qP_blind, (va_recv hK hR (ci := 8) (q0 := 0) rfl rfl), (qP_of (hR.sub (ws' := [(xo, .inr (8, [.ref gg, .ref tr, .ref ti, .ref s2, .ref s3, .ref n2])), (s2, .inr (4, [.ref a2, .int (nI m)]))]) [0, 4] rfl) (hK.sub (tys' := []) [] rfl) hNw)⟩ rfl rfl hl.1 rfl (lv_room (Nat.le_of_ble_eq_true rfl)) dL_areAlike_1 ⟨Nat.le_of_ble_eq_true rfl, Nat.le_of_ble_eq_true rfl⟩) (fun r_1 hr_1 => ?_)
  subst hr_1
  refine lv_aload_n hx hb dL_areAlike_4 rfl (lv_at hl 1 rfl) ?_
  refine vp_callSi (W.runV (As := []) (rest := [.int (nI m)]) ⟨hx, hb, hml, hown, hts⟩ (c_X9_words (l := l) (D := D) (xo := xo7) (gg := gg7) (gr := gr) (ce := ce) (tr := tr7) (sh := sh) (ar := ar) (ti := ti7) (n1 := n1) (l1 := l1) (s2 := s27) (a2 := a27) (s3 := s37) (a3 := a3) (n2 := n27) (l2 := l2) (m := m) ) (cwV 0 hts gL_areAlike_X9_words rfl rfl rfl (by decide +kernel) ⟨Nat.le_of_ble_eq_true rfl, Nat.le_of_ble_eq_true rfl⟩) ⟨qP_blind, (va_recv hK hR (ci := 8) (q0 := 6) rfl rfl), (qP_of (hR.sub (ws' := [(xo7, .inr (8, [.ref gg7, .ref tr7, .ref ti7, .ref s27, .ref s37, .ref n27])), (s27, .inr (4, [.ref a27, .int (nI m)]))]) [6, 10] rfl) (hK.sub (tys' := []) [] rfl) hNw)⟩ rfl rfl hl.1 rfl (lv_room (Nat.le_of_ble_eq_true rfl)) dL_areAlike_5 ⟨Nat.le_of_ble_eq_true rfl, Nat.le_of_ble_eq_true rfl⟩) (fun r_2 hr_2 => ?_)
  subst hr_2
  refine q_icmp_ne (a := m) (b := m) (tgt := 37) hx hb dL_areAlike_8 (by decide) (by omega) (by omega) (fun c_8 => absurd c_8 (fun h9 => h9 rfl)) (fun c_8 => ?_)
  have htn : tnd wd ki m < 2 ^ 31 := by have := tnd_le (wd := wd) (ki := ki) (m := m) (fun j hj => gw_wl (hg _ (hki j hj))); omega
  refine lv_aload_n hx hb dL_areAlike_11 rfl (lv_at hl 0 rfl) ?_
  refine vp_callSi (W.runV (As := []) (rest := []) ⟨hx, hb, hml, hown, hts⟩ (c_X9_trieNodes (l := l) (D := D) (xo := xo) (gg := gg) (gr := gr) (ce := ce) (tr := tr) (sh := sh) (ar := ar) (ti := ti) (n1 := n1) (l1 := l1) (s2 := s2) (a2 := a2) (s3 := s3) (a3 := a3) (n2 := n2) (l2 := l2) (cS2 := cS2) (fk := fk) (m := m) (ki := ki) (ea := ea) (wa := wa) (pf := pf) (cn := cn) (dp := dp) (oc := oc) (ic := ic) (lf := lf) (pt := pt) (wd := wd) (n := n) (hm := hm) (hf := hf) (hki := hki) (hg := hg)) (cwV 0 hts gL_areAlike_X9_trieNodes rfl rfl rfl (by decide +kernel) ⟨Nat.le_of_ble_eq_true rfl, Nat.le_of_ble_eq_true rfl⟩) ⟨qP_blind, (va_recv hK hR (ci := 8) (q0 := 0) rfl rfl), (qP_of (va_P.app (hR.sub (ws' := [(xo, .inr (8, [.ref gg, .ref tr, .ref ti, .ref s2, .ref s3, .ref n2])), (s2, .inr (4, [.ref a2, .int (nI m)])), (a2, .inl (cS2, 40, .inr (.inr (.inr (.inr fk)))))]) [0, 4, 5] rfl) (q_left (q_right hR))) (hK.sub (tys' := [(cS2, .object "FuzzyFens$Entry")]) [1] rfl) hNw)⟩ rfl rfl hl.1 rfl (lv_room (Nat.le_of_ble_eq_true rfl)) dL_areAlike_12 ⟨Nat.le_of_ble_eq_true rfl, Nat.le_of_ble_eq_true rfl⟩) (fun r_3 hr_3 => ?_)
  subst hr_3
  refine lv_aload_n hx hb dL_areAlike_15 rfl (lv_at hl 1 rfl) ?_
  refine vp_callSi (W.runV (As := []) (rest := [.int (nI (tnd wd ki m))]) ⟨hx, hb, hml, hown, hts⟩ (c_X9_trieNodes (l := l) (D := D) (xo := xo7) (gg := gg7) (gr := gr) (ce := ce) (tr := tr7) (sh := sh) (ar := ar) (ti := ti7) (n1 := n1) (l1 := l1) (s2 := s27) (a2 := a27) (s3 := s37) (a3 := a3) (n2 := n27) (l2 := l2) (cS2 := cS27) (fk := fk7) (m := m) (ki := ki) (ea := ea7) (wa := wa7) (pf := pf7) (cn := cn) (dp := dp) (oc := oc) (ic := ic7) (lf := lf7) (pt := pt7) (wd := wd) (n := n) (hm := hm) (hf := hf7) (hki := hki) (hg := hg)) (cwV 0 hts gL_areAlike_X9_trieNodes rfl rfl rfl (by decide +kernel) ⟨Nat.le_of_ble_eq_true rfl, Nat.le_of_ble_eq_true rfl⟩) ⟨qP_blind, (va_recv hK hR (ci := 8) (q0 := 6) rfl rfl), (qP_of (va_P.app (hR.sub (ws' := [(xo7, .inr (8, [.ref gg7, .ref tr7, .ref ti7, .ref s27, .ref s37, .ref n27])), (s27, .inr (4, [.ref a27, .int (nI m)])), (a27, .inl (cS27, 40, .inr (.inr (.inr (.inr fk7)))))]) [6, 10, 11] rfl) (q_right (q_right hR))) (hK.sub (tys' := [(cS27, .object "FuzzyFens$Entry")]) [3] rfl) hNw)⟩ rfl rfl hl.1 rfl (lv_room (Nat.le_of_ble_eq_true rfl)) dL_areAlike_16 ⟨Nat.le_of_ble_eq_true rfl, Nat.le_of_ble_eq_true rfl⟩) (fun r_4 hr_4 => ?_)
  subst hr_4
  refine q_icmp_ne (a := tnd wd ki m) (b := tnd wd ki m) (tgt := 37) hx hb dL_areAlike_19 (by decide) htn htn (fun c_19 => absurd c_19 (fun h9 => h9 rfl)) (fun c_19 => ?_)
  refine lv_aload_n hx hb dL_areAlike_22 rfl (lv_at hl 0 rfl) ?_
  refine vp_callSi (W.runV (As := []) (rest := []) ⟨hx, hb, hml, hown, hts⟩ (c_X9_treeNodes (l := l) (D := D) (xo := xo) (gg := gg) (gr := gr) (ce := ce) (tr := tr) (sh := sh) (ar := ar) (ti := ti) (n1 := n1) (l1 := l1) (s2 := s2) (a2 := a2) (s3 := s3) (a3 := a3) (n2 := n2) (l2 := l2) (n := n) ) (cwV 0 hts gL_areAlike_X9_treeNodes rfl rfl rfl (by decide +kernel) ⟨Nat.le_of_ble_eq_true rfl, Nat.le_of_ble_eq_true rfl⟩) ⟨qP_blind, (va_recv hK hR (ci := 8) (q0 := 0) rfl rfl), (qP_of (hR.sub (ws' := [(xo, .inr (8, [.ref gg, .ref tr, .ref ti, .ref s2, .ref s3, .ref n2])), (tr, .inr (5, [.ref sh])), (sh, .inr (4, [.ref ar, .int (nI n)]))]) [0, 1, 2] rfl) (hK.sub (tys' := []) [] rfl) hNw)⟩ rfl rfl hl.1 rfl (lv_room (Nat.le_of_ble_eq_true rfl)) dL_areAlike_23 ⟨Nat.le_of_ble_eq_true rfl, Nat.le_of_ble_eq_true rfl⟩) (fun r_5 hr_5 => ?_)
  subst hr_5
  refine lv_aload_n hx hb dL_areAlike_26 rfl (lv_at hl 1 rfl) ?_
  refine vp_callSi (W.runV (As := []) (rest := [.int (nI n)]) ⟨hx, hb, hml, hown, hts⟩ (c_X9_treeNodes (l := l) (D := D) (xo := xo7) (gg := gg7) (gr := gr) (ce := ce) (tr := tr7) (sh := sh7) (ar := ar7) (ti := ti7) (n1 := n1) (l1 := l1) (s2 := s27) (a2 := a2) (s3 := s37) (a3 := a3) (n2 := n27) (l2 := l2) (n := n) ) (cwV 0 hts gL_areAlike_X9_treeNodes rfl rfl rfl (by decide +kernel) ⟨Nat.le_of_ble_eq_true rfl, Nat.le_of_ble_eq_true rfl⟩) ⟨qP_blind, (va_recv hK hR (ci := 8) (q0 := 6) rfl rfl), (qP_of (hR.sub (ws' := [(xo7, .inr (8, [.ref gg7, .ref tr7, .ref ti7, .ref s27, .ref s37, .ref n27])), (tr7, .inr (5, [.ref sh7])), (sh7, .inr (4, [.ref ar7, .int (nI n)]))]) [6, 7, 8] rfl) (hK.sub (tys' := []) [] rfl) hNw)⟩ rfl rfl hl.1 rfl (lv_room (Nat.le_of_ble_eq_true rfl)) dL_areAlike_27 ⟨Nat.le_of_ble_eq_true rfl, Nat.le_of_ble_eq_true rfl⟩) (fun r_6 hr_6 => ?_)
  subst hr_6
  refine q_icmp_ne (a := n) (b := n) (tgt := 37) hx hb dL_areAlike_30 (by decide) (by omega) (by omega) (fun c_30 => absurd c_30 (fun h9 => h9 rfl)) (fun c_30 => ?_)
  refine lv_iconst (v := nI 1) hx hb dL_areAlike_33 (by decide) ?_
  refine lv_goto (tgt := 38) hx hb dL_areAlike_34 (by decide) ?_
  refine lv_istore_n (lv' := [(2, .int (nI 1)), (0, .ref xo), (1, .ref xo7)]) hx hb dL_areAlike_38 rfl hl (by decide) rfl (fun ls hl => ?_)
  refine lv_iconst (v := nI 0) hx hb dL_areAlike_39 (by decide) ?_
  refine lv_istore_n (lv' := [(3, .int (nI 0)), (2, .int (nI 1)), (0, .ref xo), (1, .ref xo7)]) hx hb dL_areAlike_40 rfl hl (by decide) rfl (fun ls hl => ?_)
  refine q_loopC (fun (x : (Nat)) (H : Heap) (locs : List Loc) (ls : Array Slot) => match x with | j => (j ≤ m) ∧ va_P D vwCl [] H ∧ va_D A [] ∧ va_S A s.heap H locs ∧ lv_has ls 6 [(3, .int (nI j)), (2, .int (nI 1)), (0, .ref xo), (1, .ref xo7)]) (fun (x : (Nat)) => match x with | j => m - j) (fun (x : (Nat)) => match x with | j => 0 + 8 * (j)) (fun (x : (Nat)) => match x with | j => 0 + 48 * (j)) 0 ⟨(by omega), hP, hD, hS, (lv_sub hl [0, 1, 2, 3] rfl)⟩ (by show 0 ≤ _; exact Nat.le_add_right _ _) (by show 0 ≤ _; exact Nat.le_add_right _ _) ?_
  clear hl
  clear hP hD hS
  rintro j H locs ls hI ih_41
  obtain ⟨hj, hP, hD, hS, hl⟩ := hI
  show W _ _ _ _ _ _ _ _ _ _ _ _ (0 + 8 * (j)) (0 + 48 * (j)) _ _
  have hmC_41 : j ≤ 40 := by omega
  have hcC_41 : 0 + 8 * (j) ≤ 320 := Nat.add_le_add_left (Nat.mul_le_mul_left 8 hmC_41) 0
  have hcS_41 : 0 + 48 * (j) ≤ 1920 := Nat.add_le_add_left (Nat.mul_le_mul_left 48 hmC_41) 0
  have hR := q_ro hR0 hna hS
  refine lv_iload_n hx hb dL_areAlike_41 rfl (lv_at hl 0 rfl) ?_
  refine lv_aload_n hx hb dL_areAlike_42 rfl (lv_at hl 2 rfl) ?_
  refine vp_callSi (W.runV (As := []) (rest := [.int (nI j)]) ⟨hx, hb, hml, hown, hts⟩ (c_X9_words (l := l) (D := D) (xo := xo) (gg := gg) (gr := gr) (ce := ce) (tr := tr) (sh := sh) (ar := ar) (ti := ti) (n1 := n1) (l1 := l1) (s2 := s2) (a2 := a2) (s3 := s3) (a3 := a3) (n2 := n2) (l2 := l2) (m := m) ) (cwV 0 hts gL_areAlike_X9_words rfl rfl rfl (by decide +kernel) ⟨Nat.le_of_ble_eq_true rfl, Nat.le_of_ble_eq_true rfl⟩) ⟨qP_blind, (va_recv hK hR (ci := 8) (q0 := 0) rfl rfl), (qP_of (hR.sub (ws' := [(xo, .inr (8, [.ref gg, .ref tr, .ref ti, .ref s2, .ref s3, .ref n2])), (s2, .inr (4, [.ref a2, .int (nI m)]))]) [0, 4] rfl) (hK.sub (tys' := []) [] rfl) hNw)⟩ rfl rfl hl.1 rfl (lv_room (Nat.le_of_ble_eq_true rfl)) dL_areAlike_43 ⟨Nat.le_trans (Nat.add_le_add_right hcC_41 0) (Nat.le_of_ble_eq_true rfl), Nat.le_trans (Nat.add_le_add_right hcS_41 0) (Nat.le_of_ble_eq_true rfl)⟩) (fun r_7 hr_7 => ?_)
  subst hr_7
  refine q_icmp_ge (a := j) (b := m) (tgt := 129) hx hb dL_areAlike_46 (by decide) (by omega) (by omega) (fun c_46 => ?_) (fun c_46 => ?_)
  · skip
    refine W.widen (k := 320) (n := 1920) hcC_41 hcS_41 ?_
    refine lv_iload_n hx hb dL_areAlike_129 rfl (lv_at hl 1 rfl) ?_
    refine W.widen (k := 328) (n := 1968) (Nat.le_of_ble_eq_true rfl) (Nat.le_of_ble_eq_true rfl) ?_
    exact W.zret (v := nI 1) hx hb hr (by decide) (fun t9 ht hW => ⟨⟨nI 1, (), rfl, rfl, by show va_P D vwCl _ t9.heap; rw [ht]; exact hP⟩, hS.F ht⟩) hS.2.2 dL_areAlike_130
  · skip
    refine lv_iload_n hx hb dL_areAlike_49 rfl (lv_at hl 1 rfl) ?_
    refine lv_if_eq (tgt := 129) hx hb dL_areAlike_50 (by decide) (fun c9 => absurd c9 (by decide)) (fun _ => ?_)
    have hkj := hki j (by omega)
    have hgj := hg _ hkj
    have haj : wd (ki j) < 2 ^ 64 := by have := gw_lt hgj; omega
    have hlj : wd (ki j) < 2 ^ 63 := by have := gw_lt hgj; omega
    have hoj := hob _ hkj
    refine lv_aload_n hx hb dL_areAlike_53 rfl (lv_at hl 2 rfl) ?_
    refine lv_iload_n hx hb dL_areAlike_54 rfl (lv_at hl 0 rfl) ?_
    have hF := va_free (wc := []) hD hS hA [] rfl
    refine vx_calll (vx_runV (As := [.int (nI j)]) (rest := []) ⟨hx, hb, hml, hown, hts⟩ (c_X9_wordAt (l := l) (D := D) (xo := xo) (gg := gg) (gr := gr) (ce := ce) (tr := tr) (sh := sh) (ar := ar) (ti := ti) (n1 := n1) (l1 := l1) (s2 := s2) (a2 := a2) (s3 := s3) (a3 := a3) (n2 := n2) (l2 := l2) (cS2 := cS2) (fk := fk) (m := m) (ki := ki) (ea := ea) (wa := wa) (pf := pf) (cn := cn) (dp := dp) (oc := oc) (ic := ic) (lf := lf) (pt := pt) (wd := wd) (n := n) (x9 := nI j) (sz := H.size) (hnd := (q_ndt (q_nd2l hnd) [0, 4, 5] rfl rfl)) (hst := hst) (hm := hm) (hf := hf) (hki := hki)) (cwV 1 hts gL_areAlike_X9_wordAt rfl rfl rfl (by decide +kernel) ⟨Nat.le_of_ble_eq_true rfl, Nat.le_of_ble_eq_true rfl⟩) ⟨qWx_blind, (va_recv hK hR (ci := 8) (q0 := 0) rfl rfl), (qWx_of (va_P.app (hR.sub (ws' := [(xo, .inr (8, [.ref gg, .ref tr, .ref ti, .ref s2, .ref s3, .ref n2])), (s2, .inr (4, [.ref a2, .int (nI m)])), (a2, .inl (cS2, 40, .inr (.inr (.inr (.inr fk)))))]) [0, 4, 5] rfl) (q_left (q_right hR))) (q_Pof (fun _ h => absurd h List.not_mem_nil)) (hK.sub (tys' := [(cS2, .object "FuzzyFens$Entry")]) [1] rfl) hNw (qZ_at hZ hS (fun q h => hF q h)) hXt)⟩ rfl rfl hl.1 rfl (lv_room (Nat.le_of_ble_eq_true rfl)) dL_areAlike_55 ⟨Nat.le_trans (Nat.add_le_add_right hcC_41 1) (Nat.le_of_ble_eq_true rfl), Nat.le_trans (Nat.add_le_add_right hcS_41 6) (Nat.le_of_ble_eq_true rfl)⟩) hS (fun q _ h => hF q h) hF (fun q _ h => hF q h) (fun E9 ce9 q9 u9 t9 H9 locs9 ht9 hvm9 hpx9 hBX9 hz9 hk9 hS9 hc9 hv9 hcl9 => ?_) (fun r_8 u_12 t_11 H_9 locs_10 ht hvm hr_8 hB hz1 hk1 hS => ?_)
    · obtain ⟨hE9, hW9⟩ := hBX9
      exact False.elim (hE9.2 (q_rng (by omega) hm))
    skip
    replace hB : va_P D vwCl [] H_9 := by rw [← ht]; exact hB
    obtain ⟨hP, hD⟩ := q_join (wc := []) (w1 := []) (ws' := []) [] hP hD rfl rfl hk1 hB rfl
    have hR := q_ro hR0 hna hS
    obtain ⟨rfl, f_r_8⟩ := hr_8
    refine q_cvl (show (lN (wd (ki (kz (nI j))))) = (lN (wd (ki j))) from (by rw [kz_nI (by omega)])) ?_
    refine lv_lstore (lv' := [(4, .long (lN (wd (ki j)))), (3, .int (nI j)), (2, .int (nI 1)), (0, .ref xo), (1, .ref xo7)]) hx hb dL_areAlike_58 hl (by decide) rfl (fun ls hl => ?_)
    refine lv_aload_n hx hb dL_areAlike_60 rfl (lv_at hl 4 rfl) ?_
    refine lv_iload_n hx hb dL_areAlike_61 rfl (lv_at hl 1 rfl) ?_
    have hF := va_free (wc := []) hD hS hA [] rfl
    refine vx_calll (vx_runV (As := [.int (nI j)]) (rest := []) ⟨hx, hb, hml, hown, hts⟩ (c_X9_wordAt (l := l) (D := D) (xo := xo7) (gg := gg7) (gr := gr) (ce := ce) (tr := tr7) (sh := sh) (ar := ar) (ti := ti7) (n1 := n1) (l1 := l1) (s2 := s27) (a2 := a27) (s3 := s37) (a3 := a3) (n2 := n27) (l2 := l2) (cS2 := cS27) (fk := fk7) (m := m) (ki := ki) (ea := ea7) (wa := wa7) (pf := pf7) (cn := cn) (dp := dp) (oc := oc) (ic := ic7) (lf := lf7) (pt := pt7) (wd := wd) (n := n) (x9 := nI j) (sz := H_9.size) (hnd := (q_ndt (q_nd2r hnd) [6, 10, 11] rfl rfl)) (hst := hst) (hm := hm) (hf := hf7) (hki := hki)) (cwV 1 hts gL_areAlike_X9_wordAt rfl rfl rfl (by decide +kernel) ⟨Nat.le_of_ble_eq_true rfl, Nat.le_of_ble_eq_true rfl⟩) ⟨qWx_blind, (va_recv hK hR (ci := 8) (q0 := 6) rfl rfl), (qWx_of (va_P.app (hR.sub (ws' := [(xo7, .inr (8, [.ref gg7, .ref tr7, .ref ti7, .ref s27, .ref s37, .ref n27])), (s27, .inr (4, [.ref a27, .int (nI m)])), (a27, .inl (cS27, 40, .inr (.inr (.inr (.inr fk7)))))]) [6, 10, 11] rfl) (q_right (q_right hR))) (q_Pof (fun _ h => absurd h List.not_mem_nil)) (hK.sub (tys' := [(cS27, .object "FuzzyFens$Entry")]) [3] rfl) hNw (qZ_at hZ hS (fun q h => hF q h)) hXt)⟩ rfl rfl hl.1 rfl (lv_room (Nat.le_of_ble_eq_true rfl)) dL_areAlike_62 ⟨Nat.le_trans (Nat.add_le_add_right (Nat.add_le_add_right hcC_41 1) 1) (Nat.le_of_ble_eq_true rfl), Nat.le_trans (Nat.add_le_add_right (Nat.add_le_add_right hcS_41 6) 6) (Nat.le_of_ble_eq_true rfl)⟩) hS (fun q _ h => hF q h) hF (fun q _ h => hF q h) (fun E9 ce9 q9 u9 t9 H9 locs9 ht9 hvm9 hpx9 hBX9 hz9 hk9 hS9 hc9 hv9 hcl9 => ?_) (fun r_13 u_17 t_16 H_14 locs_15 ht hvm hr_13 hB hz1 hk1 hS => ?_)
    · obtain ⟨hE9, hW9⟩ := hBX9
      exact False.elim (hE9.2 (q_rng (by omega) hm))
    skip
    replace hB : va_P D vwCl [] H_14 := by rw [← ht]; exact hB
    obtain ⟨hP, hD⟩ := q_join (wc := []) (w1 := []) (ws' := []) [] hP hD rfl rfl hk1 hB rfl
    have hR := q_ro hR0 hna hS
    obtain ⟨rfl, f_r_13⟩ := hr_13
    refine q_cvl (show (lN (wd (ki (kz (nI j))))) = (lN (wd (ki j))) from (by rw [kz_nI (by omega)])) ?_
    refine lv_lload hx hb dL_areAlike_65 (lv_at hl 0 rfl) ?_
    refine W.lcmp hx hb dL_areAlike_67 ?_
    refine lv_if_ne (tgt := 121) hx hb dL_areAlike_68 (by decide) (fun c_68 => absurd c_68 (fun h9 => h9 ((lg_cmp_eq _ _).mpr rfl))) (fun c_68 => ?_)
    refine lv_aload_n hx hb dL_areAlike_71 rfl (lv_at hl 3 rfl) ?_
    refine lv_lload hx hb dL_areAlike_72 (lv_at hl 0 rfl) ?_
    have hF := va_free (wc := []) hD hS hA [] rfl
    refine vx_calli (vx_runV (As := [.long (lN (wd (ki j)))]) (rest := []) ⟨hx, hb, hml, hown, hts⟩ (c_X9_count (l := l) (D := D) (xo := xo) (gg := gg) (gr := gr) (ce := ce) (tr := tr) (sh := sh) (ar := ar) (ti := ti) (n1 := n1) (l1 := l1) (s2 := s2) (a2 := a2) (s3 := s3) (a3 := a3) (n2 := n2) (l2 := l2) (cS := cS) (f := f) (ea := ea) (wa := wa) (pf := pf) (cn := cn) (dp := dp) (oc := oc) (ic := ic) (lf := lf) (pt := pt) (wd := wd) (n := n) (a := wd (ki j)) (sz := H_14.size) (hnd := (q_ndt (q_nd2l hnd) [0, 1, 2, 3] rfl rfl)) (hst := hst) (ha := haj) (hfe := hfe) (hn40 := hn40) (hg := hg)) (cwV 1 hts gL_areAlike_X9_count rfl rfl rfl (by decide +kernel) ⟨Nat.le_of_ble_eq_true rfl, Nat.le_of_ble_eq_true rfl⟩) ⟨qWx_blind, (va_recv hK hR (ci := 8) (q0 := 0) rfl rfl), (qWx_of (va_P.app (hR.sub (ws' := [(xo, .inr (8, [.ref gg, .ref tr, .ref ti, .ref s2, .ref s3, .ref n2])), (tr, .inr (5, [.ref sh])), (sh, .inr (4, [.ref ar, .int (nI n)])), (ar, .inl (cS, 40, .inr (.inr (.inr (.inr f)))))]) [0, 1, 2, 3] rfl) (q_left (q_right hR))) (q_Pof (fun _ h => absurd h List.not_mem_nil)) (hK.sub (tys' := [(cS, .object "FuzzyFens$Entry")]) [0] rfl) hNw (qZ_at hZ hS (fun q h => hF q h)) hXt)⟩ rfl rfl hl.1 rfl (lv_room (Nat.le_of_ble_eq_true rfl)) dL_areAlike_74 ⟨Nat.le_trans (Nat.add_le_add_right (Nat.add_le_add_right (Nat.add_le_add_right hcC_41 1) 1) 1) (Nat.le_of_ble_eq_true rfl), Nat.le_trans (Nat.add_le_add_right (Nat.add_le_add_right (Nat.add_le_add_right hcS_41 6) 6) 6) (Nat.le_of_ble_eq_true rfl)⟩) hS (fun q _ h => hF q h) hF (fun q _ h => hF q h) (fun E9 ce9 q9 u9 t9 H9 locs9 ht9 hvm9 hpx9 hBX9 hz9 hk9 hS9 hc9 hv9 hcl9 => ?_) (fun r_18 u_22 t_21 H_19 locs_20 ht hvm hr_18 hB hz1 hk1 hS => ?_)
    · obtain ⟨hE9, hW9⟩ := hBX9
      exact False.elim (hE9.2 hgj)
    skip
    replace hB : va_P D vwCl [] H_19 := by rw [← ht]; exact hB
    obtain ⟨hP, hD⟩ := q_join (wc := []) (w1 := []) (ws' := []) [] hP hD rfl rfl hk1 hB rfl
    have hR := q_ro hR0 hna hS
    obtain ⟨rfl, f_r_18⟩ := hr_18
    refine q_cvi (show (nI (cof (ffi (fun k => decide (wd k = (wd (ki j)))) n) oc)) = (nI (oc (ki j))) from (by rw [ffi_wd hwi hkj]; rfl)) ?_
    refine lv_aload_n hx hb dL_areAlike_77 rfl (lv_at hl 4 rfl) ?_
    refine lv_lload hx hb dL_areAlike_78 (lv_at hl 0 rfl) ?_
    have hF := va_free (wc := []) hD hS hA [] rfl
    refine vx_calli (vx_runV (As := [.long (lN (wd (ki j)))]) (rest := [.int (nI (oc (ki j)))]) ⟨hx, hb, hml, hown, hts⟩ (c_X9_count (l := l) (D := D) (xo := xo7) (gg := gg7) (gr := gr) (ce := ce) (tr := tr7) (sh := sh7) (ar := ar7) (ti := ti7) (n1 := n1) (l1 := l1) (s2 := s27) (a2 := a2) (s3 := s37) (a3 := a3) (n2 := n27) (l2 := l2) (cS := cS7) (f := f7) (ea := ea7) (wa := wa7) (pf := pf7) (cn := cn) (dp := dp) (oc := oc) (ic := ic7) (lf := lf7) (pt := pt7) (wd := wd) (n := n) (a := wd (ki j)) (sz := H_19.size) (hnd := (q_ndt (q_nd2r hnd) [6, 7, 8, 9] rfl rfl)) (hst := hst) (ha := haj) (hfe := hfe7) (hn40 := hn40) (hg := hg)) (cwV 1 hts gL_areAlike_X9_count rfl rfl rfl (by decide +kernel) ⟨Nat.le_of_ble_eq_true rfl, Nat.le_of_ble_eq_true rfl⟩) ⟨qWx_blind, (va_recv hK hR (ci := 8) (q0 := 6) rfl rfl), (qWx_of (va_P.app (hR.sub (ws' := [(xo7, .inr (8, [.ref gg7, .ref tr7, .ref ti7, .ref s27, .ref s37, .ref n27])), (tr7, .inr (5, [.ref sh7])), (sh7, .inr (4, [.ref ar7, .int (nI n)])), (ar7, .inl (cS7, 40, .inr (.inr (.inr (.inr f7)))))]) [6, 7, 8, 9] rfl) (q_right (q_right hR))) (q_Pof (fun _ h => absurd h List.not_mem_nil)) (hK.sub (tys' := [(cS7, .object "FuzzyFens$Entry")]) [2] rfl) hNw (qZ_at hZ hS (fun q h => hF q h)) hXt)⟩ rfl rfl hl.1 rfl (lv_room (Nat.le_of_ble_eq_true rfl)) dL_areAlike_80 ⟨Nat.le_trans (Nat.add_le_add_right (Nat.add_le_add_right (Nat.add_le_add_right (Nat.add_le_add_right hcC_41 1) 1) 1) 1) (Nat.le_of_ble_eq_true rfl), Nat.le_trans (Nat.add_le_add_right (Nat.add_le_add_right (Nat.add_le_add_right (Nat.add_le_add_right hcS_41 6) 6) 6) 6) (Nat.le_of_ble_eq_true rfl)⟩) hS (fun q _ h => hF q h) hF (fun q _ h => hF q h) (fun E9 ce9 q9 u9 t9 H9 locs9 ht9 hvm9 hpx9 hBX9 hz9 hk9 hS9 hc9 hv9 hcl9 => ?_) (fun r_23 u_27 t_26 H_24 locs_25 ht hvm hr_23 hB hz1 hk1 hS => ?_)
    · obtain ⟨hE9, hW9⟩ := hBX9
      exact False.elim (hE9.2 hgj)
    skip
    replace hB : va_P D vwCl [] H_24 := by rw [← ht]; exact hB
    obtain ⟨hP, hD⟩ := q_join (wc := []) (w1 := []) (ws' := []) [] hP hD rfl rfl hk1 hB rfl
    have hR := q_ro hR0 hna hS
    obtain ⟨rfl, f_r_23⟩ := hr_23
    refine q_cvi (show (nI (cof (ffi (fun k => decide (wd k = (wd (ki j)))) n) oc)) = (nI (oc (ki j))) from (by rw [ffi_wd hwi hkj]; rfl)) ?_
    refine q_icmp_ne (a := oc (ki j)) (b := oc (ki j)) (tgt := 121) hx hb dL_areAlike_83 (by decide) (by omega) (by omega) (fun c_83 => absurd c_83 (fun h9 => h9 rfl)) (fun c_83 => ?_)
    refine lv_aload_n hx hb dL_areAlike_86 rfl (lv_at hl 3 rfl) ?_
    refine lv_lload hx hb dL_areAlike_87 (lv_at hl 0 rfl) ?_
    have hF := va_free (wc := []) hD hS hA [] rfl
    refine vx_calli (vx_runV (As := [.long (lN (wd (ki j)))]) (rest := []) ⟨hx, hb, hml, hown, hts⟩ (c_X9_treeDepth (l := l) (D := D) (xo := xo) (gg := gg) (gr := gr) (ce := ce) (tr := tr) (sh := sh) (ar := ar) (ti := ti) (n1 := n1) (l1 := l1) (s2 := s2) (a2 := a2) (s3 := s3) (a3 := a3) (n2 := n2) (l2 := l2) (cS := cS) (f := f) (ea := ea) (wa := wa) (pf := pf) (cn := cn) (dp := dp) (oc := oc) (ic := ic) (lf := lf) (pt := pt) (wd := wd) (n := n) (a := wd (ki j)) (sz := H_24.size) (hnd := (q_ndt (q_nd2l hnd) [0, 1, 2, 3] rfl rfl)) (hst := hst) (ha := haj) (hfe := hfe) (hn40 := hn40) (hg := hg)) (cwV 1 hts gL_areAlike_X9_treeDepth rfl rfl rfl (by decide +kernel) ⟨Nat.le_of_ble_eq_true rfl, Nat.le_of_ble_eq_true rfl⟩) ⟨qWx_blind, (va_recv hK hR (ci := 8) (q0 := 0) rfl rfl), (qWx_of (va_P.app (hR.sub (ws' := [(xo, .inr (8, [.ref gg, .ref tr, .ref ti, .ref s2, .ref s3, .ref n2])), (tr, .inr (5, [.ref sh])), (sh, .inr (4, [.ref ar, .int (nI n)])), (ar, .inl (cS, 40, .inr (.inr (.inr (.inr f)))))]) [0, 1, 2, 3] rfl) (q_left (q_right hR))) (q_Pof (fun _ h => absurd h List.not_mem_nil)) (hK.sub (tys' := [(cS, .object "FuzzyFens$Entry")]) [0] rfl) hNw (qZ_at hZ hS (fun q h => hF q h)) hXt)⟩ rfl rfl hl.1 rfl (lv_room (Nat.le_of_ble_eq_true rfl)) dL_areAlike_89 ⟨Nat.le_trans (Nat.add_le_add_right (Nat.add_le_add_right (Nat.add_le_add_right (Nat.add_le_add_right (Nat.add_le_add_right hcC_41 1) 1) 1) 1) 1) (Nat.le_of_ble_eq_true rfl), Nat.le_trans (Nat.add_le_add_right (Nat.add_le_add_right (Nat.add_le_add_right (Nat.add_le_add_right (Nat.add_le_add_right hcS_41 6) 6) 6) 6) 6) (Nat.le_of_ble_eq_true rfl)⟩) hS (fun q _ h => hF q h) hF (fun q _ h => hF q h) (fun E9 ce9 q9 u9 t9 H9 locs9 ht9 hvm9 hpx9 hBX9 hz9 hk9 hS9 hc9 hv9 hcl9 => ?_) (fun r_28 u_32 t_31 H_29 locs_30 ht hvm hr_28 hB hz1 hk1 hS => ?_)
    · obtain ⟨hE9, hW9⟩ := hBX9
      exact False.elim (hE9.2 hgj)
    skip
    replace hB : va_P D vwCl [] H_29 := by rw [← ht]; exact hB
    obtain ⟨hP, hD⟩ := q_join (wc := []) (w1 := []) (ws' := []) [] hP hD rfl rfl hk1 hB rfl
    have hR := q_ro hR0 hna hS
    obtain ⟨rfl, f_r_28⟩ := hr_28
    refine q_cvi (show (dpv dp (ffi (fun k => decide (wd k = (wd (ki j)))) n)) = (nI (dp (ki j))) from (by rw [ffi_wd hwi hkj]; rfl)) ?_
    refine lv_aload_n hx hb dL_areAlike_92 rfl (lv_at hl 4 rfl) ?_
    refine lv_lload hx hb dL_areAlike_93 (lv_at hl 0 rfl) ?_
    have hF := va_free (wc := []) hD hS hA [] rfl
    refine vx_calli (vx_runV (As := [.long (lN (wd (ki j)))]) (rest := [.int (nI (dp (ki j)))]) ⟨hx, hb, hml, hown, hts⟩ (c_X9_treeDepth (l := l) (D := D) (xo := xo7) (gg := gg7) (gr := gr) (ce := ce) (tr := tr7) (sh := sh7) (ar := ar7) (ti := ti7) (n1 := n1) (l1 := l1) (s2 := s27) (a2 := a2) (s3 := s37) (a3 := a3) (n2 := n27) (l2 := l2) (cS := cS7) (f := f7) (ea := ea7) (wa := wa7) (pf := pf7) (cn := cn) (dp := dp) (oc := oc) (ic := ic7) (lf := lf7) (pt := pt7) (wd := wd) (n := n) (a := wd (ki j)) (sz := H_29.size) (hnd := (q_ndt (q_nd2r hnd) [6, 7, 8, 9] rfl rfl)) (hst := hst) (ha := haj) (hfe := hfe7) (hn40 := hn40) (hg := hg)) (cwV 1 hts gL_areAlike_X9_treeDepth rfl rfl rfl (by decide +kernel) ⟨Nat.le_of_ble_eq_true rfl, Nat.le_of_ble_eq_true rfl⟩) ⟨qWx_blind, (va_recv hK hR (ci := 8) (q0 := 6) rfl rfl), (qWx_of (va_P.app (hR.sub (ws' := [(xo7, .inr (8, [.ref gg7, .ref tr7, .ref ti7, .ref s27, .ref s37, .ref n27])), (tr7, .inr (5, [.ref sh7])), (sh7, .inr (4, [.ref ar7, .int (nI n)])), (ar7, .inl (cS7, 40, .inr (.inr (.inr (.inr f7)))))]) [6, 7, 8, 9] rfl) (q_right (q_right hR))) (q_Pof (fun _ h => absurd h List.not_mem_nil)) (hK.sub (tys' := [(cS7, .object "FuzzyFens$Entry")]) [2] rfl) hNw (qZ_at hZ hS (fun q h => hF q h)) hXt)⟩ rfl rfl hl.1 rfl (lv_room (Nat.le_of_ble_eq_true rfl)) dL_areAlike_95 ⟨Nat.le_trans (Nat.add_le_add_right (Nat.add_le_add_right (Nat.add_le_add_right (Nat.add_le_add_right (Nat.add_le_add_right (Nat.add_le_add_right hcC_41 1) 1) 1) 1) 1) 1) (Nat.le_of_ble_eq_true rfl), Nat.le_trans (Nat.add_le_add_right (Nat.add_le_add_right (Nat.add_le_add_right (Nat.add_le_add_right (Nat.add_le_add_right (Nat.add_le_add_right hcS_41 6) 6) 6) 6) 6) 6) (Nat.le_of_ble_eq_true rfl)⟩) hS (fun q _ h => hF q h) hF (fun q _ h => hF q h) (fun E9 ce9 q9 u9 t9 H9 locs9 ht9 hvm9 hpx9 hBX9 hz9 hk9 hS9 hc9 hv9 hcl9 => ?_) (fun r_33 u_37 t_36 H_34 locs_35 ht hvm hr_33 hB hz1 hk1 hS => ?_)
    · obtain ⟨hE9, hW9⟩ := hBX9
      exact False.elim (hE9.2 hgj)
    skip
    replace hB : va_P D vwCl [] H_34 := by rw [← ht]; exact hB
    obtain ⟨hP, hD⟩ := q_join (wc := []) (w1 := []) (ws' := []) [] hP hD rfl rfl hk1 hB rfl
    have hR := q_ro hR0 hna hS
    obtain ⟨rfl, f_r_33⟩ := hr_33
    refine q_cvi (show (dpv dp (ffi (fun k => decide (wd k = (wd (ki j)))) n)) = (nI (dp (ki j))) from (by rw [ffi_wd hwi hkj]; rfl)) ?_
    refine lv_icmp_ne (tgt := 121) hx hb dL_areAlike_98 (by decide) (fun c_98 => absurd c_98 (fun h9 => h9 rfl)) (fun c_98 => ?_)
    refine lv_aload_n hx hb dL_areAlike_101 rfl (lv_at hl 3 rfl) ?_
    refine lv_lload hx hb dL_areAlike_102 (lv_at hl 0 rfl) ?_
    have hF := va_free (wc := []) hD hS hA [] rfl
    refine vx_calll (vx_runV (As := [.long (lN (wd (ki j)))]) (rest := []) ⟨hx, hb, hml, hown, hts⟩ (c_X9_treeParent (l := l) (D := D) (xo := xo) (gg := gg) (gr := gr) (ce := ce) (tr := tr) (sh := sh) (ar := ar) (ti := ti) (n1 := n1) (l1 := l1) (s2 := s2) (a2 := a2) (s3 := s3) (a3 := a3) (n2 := n2) (l2 := l2) (cS := cS) (f := f) (ea := ea) (wa := wa) (pf := pf) (cn := cn) (dp := dp) (oc := oc) (ic := ic) (lf := lf) (pt := pt) (wd := wd) (n := n) (pi := pi) (a := wd (ki j)) (sz := H_34.size) (hnd := (q_ndt (q_nd2l hnd) [0, 1, 2, 3] rfl rfl)) (hst := hst) (ha := haj) (hfe := hfe) (hn40 := hn40) (hg := hg) (hpi := hpi) (hpn := hpn)) (cwV 1 hts gL_areAlike_X9_treeParent rfl rfl rfl (by decide +kernel) ⟨Nat.le_of_ble_eq_true rfl, Nat.le_of_ble_eq_true rfl⟩) ⟨qWx_blind, (va_recv hK hR (ci := 8) (q0 := 0) rfl rfl), (qWx_of (va_P.app (hR.sub (ws' := [(xo, .inr (8, [.ref gg, .ref tr, .ref ti, .ref s2, .ref s3, .ref n2])), (tr, .inr (5, [.ref sh])), (sh, .inr (4, [.ref ar, .int (nI n)])), (ar, .inl (cS, 40, .inr (.inr (.inr (.inr f)))))]) [0, 1, 2, 3] rfl) (q_left (q_right hR))) (q_Pof (fun _ h => absurd h List.not_mem_nil)) (hK.sub (tys' := [(cS, .object "FuzzyFens$Entry")]) [0] rfl) hNw (qZ_at hZ hS (fun q h => hF q h)) hXt)⟩ rfl rfl hl.1 rfl (lv_room (Nat.le_of_ble_eq_true rfl)) dL_areAlike_104 ⟨Nat.le_trans (Nat.add_le_add_right (Nat.add_le_add_right (Nat.add_le_add_right (Nat.add_le_add_right (Nat.add_le_add_right (Nat.add_le_add_right (Nat.add_le_add_right hcC_41 1) 1) 1) 1) 1) 1) 1) (Nat.le_of_ble_eq_true rfl), Nat.le_trans (Nat.add_le_add_right (Nat.add_le_add_right (Nat.add_le_add_right (Nat.add_le_add_right (Nat.add_le_add_right (Nat.add_le_add_right (Nat.add_le_add_right hcS_41 6) 6) 6) 6) 6) 6) 6) (Nat.le_of_ble_eq_true rfl)⟩) hS (fun q _ h => hF q h) hF (fun q _ h => hF q h) (fun E9 ce9 q9 u9 t9 H9 locs9 ht9 hvm9 hpx9 hBX9 hz9 hk9 hS9 hc9 hv9 hcl9 => ?_) (fun r_38 u_42 t_41 H_39 locs_40 ht hvm hr_38 hB hz1 hk1 hS => ?_)
    · obtain ⟨hE9, hW9⟩ := hBX9
      exact False.elim (hE9.2 hgj)
    skip
    replace hB : va_P D vwCl [] H_39 := by rw [← ht]; exact hB
    obtain ⟨hP, hD⟩ := q_join (wc := []) (w1 := []) (ws' := []) [] hP hD rfl rfl hk1 hB rfl
    have hR := q_ro hR0 hna hS
    obtain ⟨rfl, f_r_38⟩ := hr_38
    refine q_cvl (show (lnn wd ((ffi (fun k => decide (wd k = (wd (ki j)))) n).bind pi)) = (lnn wd (pi (ki j))) from (by rw [ffi_wd hwi hkj]; rfl)) ?_
    refine lv_aload_n hx hb dL_areAlike_107 rfl (lv_at hl 4 rfl) ?_
    refine lv_lload hx hb dL_areAlike_108 (lv_at hl 0 rfl) ?_
    have hF := va_free (wc := []) hD hS hA [] rfl
    refine vx_calll (vx_runV (As := [.long (lN (wd (ki j)))]) (rest := [.long (lnn wd (pi (ki j)))]) ⟨hx, hb, hml, hown, hts⟩ (c_X9_treeParent (l := l) (D := D) (xo := xo7) (gg := gg7) (gr := gr) (ce := ce) (tr := tr7) (sh := sh7) (ar := ar7) (ti := ti7) (n1 := n1) (l1 := l1) (s2 := s27) (a2 := a2) (s3 := s37) (a3 := a3) (n2 := n27) (l2 := l2) (cS := cS7) (f := f7) (ea := ea7) (wa := wa7) (pf := pf7) (cn := cn) (dp := dp) (oc := oc) (ic := ic7) (lf := lf7) (pt := pt7) (wd := wd) (n := n) (pi := pi) (a := wd (ki j)) (sz := H_39.size) (hnd := (q_ndt (q_nd2r hnd) [6, 7, 8, 9] rfl rfl)) (hst := hst) (ha := haj) (hfe := hfe7) (hn40 := hn40) (hg := hg) (hpi := hpi7) (hpn := hpn)) (cwV 1 hts gL_areAlike_X9_treeParent rfl rfl rfl (by decide +kernel) ⟨Nat.le_of_ble_eq_true rfl, Nat.le_of_ble_eq_true rfl⟩) ⟨qWx_blind, (va_recv hK hR (ci := 8) (q0 := 6) rfl rfl), (qWx_of (va_P.app (hR.sub (ws' := [(xo7, .inr (8, [.ref gg7, .ref tr7, .ref ti7, .ref s27, .ref s37, .ref n27])), (tr7, .inr (5, [.ref sh7])), (sh7, .inr (4, [.ref ar7, .int (nI n)])), (ar7, .inl (cS7, 40, .inr (.inr (.inr (.inr f7)))))]) [6, 7, 8, 9] rfl) (q_right (q_right hR))) (q_Pof (fun _ h => absurd h List.not_mem_nil)) (hK.sub (tys' := [(cS7, .object "FuzzyFens$Entry")]) [2] rfl) hNw (qZ_at hZ hS (fun q h => hF q h)) hXt)⟩ rfl rfl hl.1 rfl (lv_room (Nat.le_of_ble_eq_true rfl)) dL_areAlike_110 ⟨Nat.le_trans (Nat.add_le_add_right (Nat.add_le_add_right (Nat.add_le_add_right (Nat.add_le_add_right (Nat.add_le_add_right (Nat.add_le_add_right (Nat.add_le_add_right (Nat.add_le_add_right hcC_41 1) 1) 1) 1) 1) 1) 1) 1) (Nat.le_of_ble_eq_true rfl), Nat.le_trans (Nat.add_le_add_right (Nat.add_le_add_right (Nat.add_le_add_right (Nat.add_le_add_right (Nat.add_le_add_right (Nat.add_le_add_right (Nat.add_le_add_right (Nat.add_le_add_right hcS_41 6) 6) 6) 6) 6) 6) 6) 6) (Nat.le_of_ble_eq_true rfl)⟩) hS (fun q _ h => hF q h) hF (fun q _ h => hF q h) (fun E9 ce9 q9 u9 t9 H9 locs9 ht9 hvm9 hpx9 hBX9 hz9 hk9 hS9 hc9 hv9 hcl9 => ?_) (fun r_43 u_47 t_46 H_44 locs_45 ht hvm hr_43 hB hz1 hk1 hS => ?_)
    · obtain ⟨hE9, hW9⟩ := hBX9
      exact False.elim (hE9.2 hgj)
    skip
    replace hB : va_P D vwCl [] H_44 := by rw [← ht]; exact hB
    obtain ⟨hP, hD⟩ := q_join (wc := []) (w1 := []) (ws' := []) [] hP hD rfl rfl hk1 hB rfl
    have hR := q_ro hR0 hna hS
    obtain ⟨rfl, f_r_43⟩ := hr_43
    refine q_cvl (show (lnn wd ((ffi (fun k => decide (wd k = (wd (ki j)))) n).bind pi)) = (lnn wd (pi (ki j))) from (by rw [ffi_wd hwi hkj]; rfl)) ?_
    refine W.lcmp hx hb dL_areAlike_113 ?_
    refine lv_if_ne (tgt := 121) hx hb dL_areAlike_114 (by decide) (fun c_114 => absurd c_114 (fun h9 => h9 ((lg_cmp_eq _ _).mpr rfl))) (fun c_114 => ?_)
    refine lv_iconst (v := nI 1) hx hb dL_areAlike_117 (by decide) ?_
    refine lv_goto (tgt := 122) hx hb dL_areAlike_118 (by decide) ?_
    refine lv_istore_n (lv' := [(2, .int (nI 1)), (4, .long (lN (wd (ki j)))), (3, .int (nI j)), (0, .ref xo), (1, .ref xo7)]) hx hb dL_areAlike_122 rfl hl (by decide) rfl (fun ls hl => ?_)
    refine lv_iinc (v := nI (j + 1)) (lv' := [(3, .int (nI (j + 1))), (2, .int (nI 1)), (4, .long (lN (wd (ki j)))), (0, .ref xo), (1, .ref xo7)]) hx hb dL_areAlike_123 hl (k := 2) rfl (q_inc (k := 1) (by omega)) (by decide) rfl (fun ls hl => ?_)
    refine lv_goto (tgt := 41) hx hb dL_areAlike_126 (by decide) ?_
    exact ih_41 (j + 1) _ _ _ _ _ ⟨(by omega), hP, hD, hS, (lv_sub hl [0, 1, 3, 4] rfl)⟩ (by show m - (j + 1) < m - j; omega) (by show _ ≤ 0 + 8 * ((j + 1)); omega) (by show _ ≤ 0 + 48 * ((j + 1)); omega)
