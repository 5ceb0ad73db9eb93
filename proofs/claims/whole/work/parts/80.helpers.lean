/-! the law's helpers: what a call of the class comes to, its throws caught -/
set_option maxHeartbeats 4000000 in
set_option maxRecDepth 100000 in
/-- law: count -/
theorem c_L_count (l : Launch) (D : va_G) (sz : Nat) (xo : Nat) (gg : Nat) (gr : Nat) (ce : Nat) (tr : Nat) (sh : Nat) (ar : Nat) (ti : Nat) (n1 : Nat) (l1 : Nat) (s2 : Nat) (a2 : Nat) (s3 : Nat) (a3 : Nat) (n2 : Nat) (l2 : Nat) (cS : ClassId) (f : Nat → Option Nat) (ea : Nat → Nat) (wa : Nat → Nat) (pf : Nat → Option Nat) (cn : Nat → Nat) (dp : Nat → Nat) (oc : Nat → Nat) (ic : Nat → Int32) (lf : Nat → Int32) (pt : Nat → Int32) (wd : Nat → Nat) (n : Nat) (a : Nat) (out : Nat) (cO : ClassId) (fo : Nat → Int64) (hst : l.stackTraces = false) (hnd : ([out] ++ ([xo, tr, sh, ar] ++ (rg ea n ++ rg wa n))).Nodup) (ha : a < 2 ^ 64) (hfe : ∀ j, j < n → f j = some (ea j)) (hn40 : n ≤ 40) (hg : ∀ k, k < n → gw (wd k)) : Met l yL_count wsL_count { frames := 8, cells := 1, slots := 6, locals := 126 } (va_Pc [.ref xo, .long (lN a), .ref out] (qWx D sz ([(xo, .inr (8, [.ref gg, .ref tr, .ref ti, .ref s2, .ref s3, .ref n2])), (tr, .inr (5, [.ref sh])), (sh, .inr (4, [.ref ar, .int (nI n)])), (ar, .inl (cS, 40, .inr (.inr (.inr (.inr f)))))] ++ (EW ea wa pf cn dp oc ic lf pt n ++ WW wa wd n)) [(out, .inl (cO, 1, .inr (.inl fo)))] [(cO, .long), (cS, .object "FuzzyFens$Entry")])) (va_Qi (fun (rv : Int32) (uv : (Nat → Int64)) => ((rv = nI 0 ∧ (gw a) ∧ uv 0 = (nI (cof (ffi (fun k => decide (wd k = a)) n) oc)).toInt64) ∨ (rv = nI 1 ∧ ¬ gw a))) (fun (uv : (Nat → Int64)) (tv : State) => va_P D vwCl [(out, .inl (cO, 1, .inr (.inl uv)))] tv.heap) (va_A [(out, .inl (cO, 1, .inr (.inl fo)))] sz)) 1 6 (va_A [(out, .inl (cO, 1, .inr (.inl fo)))] sz) := by
  refine va_MetW (cc := cL_count) (maxL := 5) (ret := (some .int)) (hh := [(0, 9, 12, 13)]) (by decide) rfl ?_
  intro pM eM s mi9 argsM belowM methM cM sM B hml hv
  obtain ⟨rfl, hsz, hR0, hP, hK, hNw, hZ, hXt⟩ := hv
  have hx := B.exec
  have hb := B.bytes
  have hr := B.returns
  have hts := atoms_spec (ws := wsL_count) B.pre
  have hta : cM.exceptionTable.toList = tableOf [(0, 9, 12, 13)] := vx_table (x := yL_count) B (hts (.codeWith yL_count cL_count 5 (some .int) [(0, 9, 12, 13)]) (List.mem_of_getElem? (i := 0) rfl))
  have hown : s.vm.findClass RL = some mi9.cls := findClass_of_methodNamed B.named
  have hlocks := B.notSynchronized
  subst hsz
  have hna := q_na (RW := [(out, .inl (cO, 1, .inr (.inl fo)))]) (RO := [(xo, .inr (8, [.ref gg, .ref tr, .ref ti, .ref s2, .ref s3, .ref n2])), (tr, .inr (5, [.ref sh])), (sh, .inr (4, [.ref ar, .int (nI n)])), (ar, .inl (cS, 40, .inr (.inr (.inr (.inr f)))))] ++ (EW ea wa pf cn dp oc ic lf pt n ++ WW wa wd n)) hnd rfl (by rw [List.map_append, List.map_append, EW_fst, WW_fst]; rfl) hR0
  have hD := q_D (RW := [(out, .inl (cO, 1, .inr (.inl fo)))]) (sz := s.heap.size) hnd rfl
  have hnR : (([(xo, .inr (8, [.ref gg, .ref tr, .ref ti, .ref s2, .ref s3, .ref n2])), (tr, .inr (5, [.ref sh])), (sh, .inr (4, [.ref ar, .int (nI n)])), (ar, .inl (cS, 40, .inr (.inr (.inr (.inr f)))))] ++ (EW ea wa pf cn dp oc ic lf pt n ++ WW wa wd n) : va_W).map (·.1)).Nodup := by rw [show ([(xo, .inr (8, [.ref gg, .ref tr, .ref ti, .ref s2, .ref s3, .ref n2])), (tr, .inr (5, [.ref sh])), (sh, .inr (4, [.ref ar, .int (nI n)])), (ar, .inl (cS, 40, .inr (.inr (.inr (.inr f)))))] ++ (EW ea wa pf cn dp oc ic lf pt n ++ WW wa wd n) : va_W).map (·.1) = ([xo, tr, sh, ar] ++ (rg ea n ++ rg wa n)) from (by rw [List.map_append, List.map_append, EW_fst, WW_fst]; rfl)]; exact (List.nodup_append.mp hnd).2.1
  have hA : ∀ q : Nat, s.heap.size ≤ q → va_A [(out, .inl (cO, 1, .inr (.inl fo)))] s.heap.size q := fun q h => Or.inr h
  generalize hAe : va_A [(out, .inl (cO, 1, .inr (.inl fo)))] s.heap.size = A at hna hD hA hZ ⊢
  have hS : va_S A s.heap s.heap [] := va_S.rf
  have hR := hR0
  have hP : va_P D vwCl [(out, .inl (cO, 1, .inr (.inl fo)))] s.heap := hP
  have hl := lv_entry ([.ref xo, .long (lN a), .ref out]) (n := 5) (Nat.le_of_ble_eq_true rfl)
  rw [lg_entry_eq]
  generalize (lg_sl ([.ref xo, .long (lN a), .ref out]) ++ List.replicate (5 - (lg_sl ([.ref xo, .long (lN a), .ref out])).length) Slot.unset).toArray = ls at hl ⊢
  have hl : lv_has ls 5 [(0, .ref xo), (1, .long (lN a)), (3, .ref out)] := hl
  refine lv_aload_n hx hb dL_count_0 rfl (lv_at hl 2 rfl) ?_
  refine lv_iconst (v := nI 0) hx hb dL_count_1 (by decide) ?_
  refine lv_aload_n hx hb dL_count_2 rfl (lv_at hl 0 rfl) ?_
  refine lv_lload_n hx hb dL_count_3 rfl (lv_at hl 1 rfl) ?_
  have hF := va_free (wc := []) hD hS hA [] rfl
  refine vx_calli (vx_runV (As := [.long (lN a)]) (rest := [.int (nI 0), .ref out]) ⟨hx, hb, hml, hown, hts⟩ (c_X9_count (l := l) (D := D) (xo := xo) (gg := gg) (gr := gr) (ce := ce) (tr := tr) (sh := sh) (ar := ar) (ti := ti) (n1 := n1) (l1 := l1) (s2 := s2) (a2 := a2) (s3 := s3) (a3 := a3) (n2 := n2) (l2 := l2) (cS := cS) (f := f) (ea := ea) (wa := wa) (pf := pf) (cn := cn) (dp := dp) (oc := oc) (ic := ic) (lf := lf) (pt := pt) (wd := wd) (n := n) (a := a) (sz := s.heap.size) (hnd := (q_ndt hnd [1, 2, 3, 4] rfl rfl)) (hst := hst) (ha := ha) (hfe := hfe) (hn40 := hn40) (hg := hg)) (cwV 1 hts gL_count_X9_count rfl rfl rfl (by decide +kernel) ⟨Nat.le_of_ble_eq_true rfl, Nat.le_of_ble_eq_true rfl⟩) ⟨qWx_blind, (va_recv hK hR (ci := 8) (q0 := 0) rfl rfl), (qWx_of (va_P.app (hR.sub (ws' := [(xo, .inr (8, [.ref gg, .ref tr, .ref ti, .ref s2, .ref s3, .ref n2])), (tr, .inr (5, [.ref sh])), (sh, .inr (4, [.ref ar, .int (nI n)])), (ar, .inl (cS, 40, .inr (.inr (.inr (.inr f)))))]) [0, 1, 2, 3] rfl) (q_right hR)) (q_Pof (fun _ h => absurd h List.not_mem_nil)) (hK.sub (tys' := [(cS, .object "FuzzyFens$Entry")]) [1] rfl) hNw (qZ_at hZ hS (fun q h => hF q h)) hXt)⟩ rfl rfl hl.1 rfl (lv_room (Nat.le_of_ble_eq_true rfl)) dL_count_4 ⟨Nat.le_of_ble_eq_true rfl, Nat.le_of_ble_eq_true rfl⟩) hS (fun q _ h => hF q h) hF (fun q _ h => hF q h) (fun E9 ce9 q9 u9 t9 H9 locs9 ht9 hvm9 hpx9 hBX9 hz9 hk9 hS9 hc9 hv9 hcl9 => ?_) (fun r_1 u_5 t_4 H_2 locs_3 ht hvm hr_1 hB hz1 hk1 hS => ?_)
  · skip
    obtain ⟨hE9, hW9⟩ := hBX9
    replace hW9 : va_P D vwCl [] H9 := by rw [← ht9]; exact hW9
    obtain ⟨hP, hD⟩ := q_join (wc := []) (w1 := []) (ws' := [(out, .inl (cO, 1, .inr (.inl fo)))]) [] hP hD rfl rfl hk9 hW9 rfl
    have hS := hS9
    have hR := q_ro hR0 hna hS
    obtain ⟨rfl, hC9⟩ := hE9
    refine vx_catch (own := RL) (name := q_IA) (E := q_IA) (ce := ce9) (q := q9) hown [] ⟨0, 9, 12, 13⟩ [] (by rw [hta]; rfl) (fun z9 h9 => absurd h9 List.not_mem_nil) rfl (by decide) (hts (.classLink RL 13 "java/lang/IllegalArgumentException") (List.mem_of_getElem? (i := 1) rfl)) (va_Nw.use rfl (hXt.2.1 (q_IA, q_IA) (by decide))) hc9 hv9 hcl9 ?_
    refine W.eq (g2 := F0 mi9 12 ls [.ref q9]) rfl ?_
    refine lv_astore (lv' := [(4, .ref q9), (0, .ref xo), (1, .long (lN a)), (3, .ref out)]) hx hb dL_count_12 hl (by decide) rfl (fun ls hl => ?_)
    refine lv_iconst (v := nI 1) hx hb dL_count_14 (by decide) ?_
    refine W.widen (k := 1) (n := 6) (Nat.le_of_ble_eq_true rfl) (Nat.le_of_ble_eq_true rfl) ?_
    exact W.iret (v := nI 1) hx hb hr (fun t9 ht hW => ⟨⟨nI 1, fo, rfl, (Or.inr (⟨rfl, hC9⟩)), by show va_P D vwCl _ t9.heap; rw [ht]; exact hP⟩, hS.F ht⟩) hS.2.2 dL_count_15
  skip
  replace hB : va_P D vwCl [] H_2 := by rw [← ht]; exact hB
  obtain ⟨hP, hD⟩ := q_join (wc := []) (w1 := []) (ws' := [(out, .inl (cO, 1, .inr (.inl fo)))]) [] hP hD rfl rfl hk1 hB rfl
  have hR := q_ro hR0 hna hS
  obtain ⟨rfl, hF8⟩ := hr_1
  refine lv_i2l hx hb dL_count_7 rfl ?_
  refine va_last (D := D) hx hb hK hP hD hS 0 0 rfl rfl (vp_in_nI (n := 0) (N := 1) (by omega) (by decide)) dL_count_8 (fun H_6 locs_7 hP hD hS => ?_)
  rw [nI_clamp (n := 0) (by omega)] at hP hD
  have hP : va_P D vwCl [(out, .inl (cO, 1, .inr (.inl (vp_updL fo 0 ((nI (cof (ffi (fun k => decide (wd k = a)) n) oc)).toInt64)))))] H_6 := hP
  have hD : va_D A [(out, .inl (cO, 1, .inr (.inl (vp_updL fo 0 ((nI (cof (ffi (fun k => decide (wd k = a)) n) oc)).toInt64)))))] := hD
  have hR := q_ro hR0 hna hS
  refine lv_goto (tgt := 16) hx hb dL_count_9 (by decide) ?_
  refine lv_iconst (v := nI 0) hx hb dL_count_16 (by decide) ?_
  refine W.widen (k := 1) (n := 6) (Nat.le_of_ble_eq_true rfl) (Nat.le_of_ble_eq_true rfl) ?_
  exact W.iret (v := nI 0) hx hb hr (fun t9 ht hW => ⟨⟨nI 0, vp_updL fo 0 ((nI (cof (ffi (fun k => decide (wd k = a)) n) oc)).toInt64), rfl, (Or.inl ⟨rfl, ⟨hF8, rfl⟩⟩), by show va_P D vwCl _ t9.heap; rw [ht]; exact hP⟩, hS.F ht⟩) hS.2.2 dL_count_17

set_option maxHeartbeats 4000000 in
set_option maxRecDepth 100000 in
/-- law: treeDepth -/
theorem c_L_treeDepth (l : Launch) (D : va_G) (sz : Nat) (xo : Nat) (gg : Nat) (gr : Nat) (ce : Nat) (tr : Nat) (sh : Nat) (ar : Nat) (ti : Nat) (n1 : Nat) (l1 : Nat) (s2 : Nat) (a2 : Nat) (s3 : Nat) (a3 : Nat) (n2 : Nat) (l2 : Nat) (cS : ClassId) (f : Nat → Option Nat) (ea : Nat → Nat) (wa : Nat → Nat) (pf : Nat → Option Nat) (cn : Nat → Nat) (dp : Nat → Nat) (oc : Nat → Nat) (ic : Nat → Int32) (lf : Nat → Int32) (pt : Nat → Int32) (wd : Nat → Nat) (n : Nat) (a : Nat) (out : Nat) (cO : ClassId) (fo : Nat → Int64) (hst : l.stackTraces = false) (hnd : ([out] ++ ([xo, tr, sh, ar] ++ (rg ea n ++ rg wa n))).Nodup) (ha : a < 2 ^ 64) (hfe : ∀ j, j < n → f j = some (ea j)) (hn40 : n ≤ 40) (hg : ∀ k, k < n → gw (wd k)) : Met l yL_treeDepth wsL_treeDepth { frames := 8, cells := 1, slots := 6, locals := 126 } (va_Pc [.ref xo, .long (lN a), .ref out] (qWx D sz ([(xo, .inr (8, [.ref gg, .ref tr, .ref ti, .ref s2, .ref s3, .ref n2])), (tr, .inr (5, [.ref sh])), (sh, .inr (4, [.ref ar, .int (nI n)])), (ar, .inl (cS, 40, .inr (.inr (.inr (.inr f)))))] ++ (EW ea wa pf cn dp oc ic lf pt n ++ WW wa wd n)) [(out, .inl (cO, 1, .inr (.inl fo)))] [(cO, .long), (cS, .object "FuzzyFens$Entry")])) (va_Qi (fun (rv : Int32) (uv : (Nat → Int64)) => ((rv = nI 0 ∧ (gw a) ∧ uv 0 = (dpv dp (ffi (fun k => decide (wd k = a)) n)).toInt64) ∨ (rv = nI 1 ∧ ¬ gw a))) (fun (uv : (Nat → Int64)) (tv : State) => va_P D vwCl [(out, .inl (cO, 1, .inr (.inl uv)))] tv.heap) (va_A [(out, .inl (cO, 1, .inr (.inl fo)))] sz)) 1 6 (va_A [(out, .inl (cO, 1, .inr (.inl fo)))] sz) := by
  refine va_MetW (cc := cL_treeDepth) (maxL := 5) (ret := (some .int)) (hh := [(0, 9, 12, 13)]) (by decide) rfl ?_
  intro pM eM s mi9 argsM belowM methM cM sM B hml hv
  obtain ⟨rfl, hsz, hR0, hP, hK, hNw, hZ, hXt⟩ := hv
  have hx := B.exec
  have hb := B.bytes
  have hr := B.returns
  have hts := atoms_spec (ws := wsL_treeDepth) B.pre
  have hta : cM.exceptionTable.toList = tableOf [(0, 9, 12, 13)] := vx_table (x := yL_treeDepth) B (hts (.codeWith yL_treeDepth cL_treeDepth 5 (some .int) [(0, 9, 12, 13)]) (List.mem_of_getElem? (i := 0) rfl))
  have hown : s.vm.findClass RL = some mi9.cls := findClass_of_methodNamed B.named
  have hlocks := B.notSynchronized
  subst hsz
  have hna := q_na (RW := [(out, .inl (cO, 1, .inr (.inl fo)))]) (RO := [(xo, .inr (8, [.ref gg, .ref tr, .ref ti, .ref s2, .ref s3, .ref n2])), (tr, .inr (5, [.ref sh])), (sh, .inr (4, [.ref ar, .int (nI n)])), (ar, .inl (cS, 40, .inr (.inr (.inr (.inr f)))))] ++ (EW ea wa pf cn dp oc ic lf pt n ++ WW wa wd n)) hnd rfl (by rw [List.map_append, List.map_append, EW_fst, WW_fst]; rfl) hR0
  have hD := q_D (RW := [(out, .inl (cO, 1, .inr (.inl fo)))]) (sz := s.heap.size) hnd rfl
  have hnR : (([(xo, .inr (8, [.ref gg, .ref tr, .ref ti, .ref s2, .ref s3, .ref n2])), (tr, .inr (5, [.ref sh])), (sh, .inr (4, [.ref ar, .int (nI n)])), (ar, .inl (cS, 40, .inr (.inr (.inr (.inr f)))))] ++ (EW ea wa pf cn dp oc ic lf pt n ++ WW wa wd n) : va_W).map (·.1)).Nodup := by rw [show ([(xo, .inr (8, [.ref gg, .ref tr, .ref ti, .ref s2, .ref s3, .ref n2])), (tr, .inr (5, [.ref sh])), (sh, .inr (4, [.ref ar, .int (nI n)])), (ar, .inl (cS, 40, .inr (.inr (.inr (.inr f)))))] ++ (EW ea wa pf cn dp oc ic lf pt n ++ WW wa wd n) : va_W).map (·.1) = ([xo, tr, sh, ar] ++ (rg ea n ++ rg wa n)) from (by rw [List.map_append, List.map_append, EW_fst, WW_fst]; rfl)]; exact (List.nodup_append.mp hnd).2.1
  have hA : ∀ q : Nat, s.heap.size ≤ q → va_A [(out, .inl (cO, 1, .inr (.inl fo)))] s.heap.size q := fun q h => Or.inr h
  generalize hAe : va_A [(out, .inl (cO, 1, .inr (.inl fo)))] s.heap.size = A at hna hD hA hZ ⊢
  have hS : va_S A s.heap s.heap [] := va_S.rf
  have hR := hR0
  have hP : va_P D vwCl [(out, .inl (cO, 1, .inr (.inl fo)))] s.heap := hP
  have hl := lv_entry ([.ref xo, .long (lN a), .ref out]) (n := 5) (Nat.le_of_ble_eq_true rfl)
  rw [lg_entry_eq]
  generalize (lg_sl ([.ref xo, .long (lN a), .ref out]) ++ List.replicate (5 - (lg_sl ([.ref xo, .long (lN a), .ref out])).length) Slot.unset).toArray = ls at hl ⊢
  have hl : lv_has ls 5 [(0, .ref xo), (1, .long (lN a)), (3, .ref out)] := hl
  refine lv_aload_n hx hb dL_treeDepth_0 rfl (lv_at hl 2 rfl) ?_
  refine lv_iconst (v := nI 0) hx hb dL_treeDepth_1 (by decide) ?_
  refine lv_aload_n hx hb dL_treeDepth_2 rfl (lv_at hl 0 rfl) ?_
  refine lv_lload_n hx hb dL_treeDepth_3 rfl (lv_at hl 1 rfl) ?_
  have hF := va_free (wc := []) hD hS hA [] rfl
  refine vx_calli (vx_runV (As := [.long (lN a)]) (rest := [.int (nI 0), .ref out]) ⟨hx, hb, hml, hown, hts⟩ (c_X9_treeDepth (l := l) (D := D) (xo := xo) (gg := gg) (gr := gr) (ce := ce) (tr := tr) (sh := sh) (ar := ar) (ti := ti) (n1 := n1) (l1 := l1) (s2 := s2) (a2 := a2) (s3 := s3) (a3 := a3) (n2 := n2) (l2 := l2) (cS := cS) (f := f) (ea := ea) (wa := wa) (pf := pf) (cn := cn) (dp := dp) (oc := oc) (ic := ic) (lf := lf) (pt := pt) (wd := wd) (n := n) (a := a) (sz := s.heap.size) (hnd := (q_ndt hnd [1, 2, 3, 4] rfl rfl)) (hst := hst) (ha := ha) (hfe := hfe) (hn40 := hn40) (hg := hg)) (cwV 1 hts gL_treeDepth_X9_treeDepth rfl rfl rfl (by decide +kernel) ⟨Nat.le_of_ble_eq_true rfl, Nat.le_of_ble_eq_true rfl⟩) ⟨qWx_blind, (va_recv hK hR (ci := 8) (q0 := 0) rfl rfl), (qWx_of (va_P.app (hR.sub (ws' := [(xo, .inr (8, [.ref gg, .ref tr, .ref ti, .ref s2, .ref s3, .ref n2])), (tr, .inr (5, [.ref sh])), (sh, .inr (4, [.ref ar, .int (nI n)])), (ar, .inl (cS, 40, .inr (.inr (.inr (.inr f)))))]) [0, 1, 2, 3] rfl) (q_right hR)) (q_Pof (fun _ h => absurd h List.not_mem_nil)) (hK.sub (tys' := [(cS, .object "FuzzyFens$Entry")]) [1] rfl) hNw (qZ_at hZ hS (fun q h => hF q h)) hXt)⟩ rfl rfl hl.1 rfl (lv_room (Nat.le_of_ble_eq_true rfl)) dL_treeDepth_4 ⟨Nat.le_of_ble_eq_true rfl, Nat.le_of_ble_eq_true rfl⟩) hS (fun q _ h => hF q h) hF (fun q _ h => hF q h) (fun E9 ce9 q9 u9 t9 H9 locs9 ht9 hvm9 hpx9 hBX9 hz9 hk9 hS9 hc9 hv9 hcl9 => ?_) (fun r_1 u_5 t_4 H_2 locs_3 ht hvm hr_1 hB hz1 hk1 hS => ?_)
  · skip
    obtain ⟨hE9, hW9⟩ := hBX9
    replace hW9 : va_P D vwCl [] H9 := by rw [← ht9]; exact hW9
    obtain ⟨hP, hD⟩ := q_join (wc := []) (w1 := []) (ws' := [(out, .inl (cO, 1, .inr (.inl fo)))]) [] hP hD rfl rfl hk9 hW9 rfl
    have hS := hS9
    have hR := q_ro hR0 hna hS
    obtain ⟨rfl, hC9⟩ := hE9
    refine vx_catch (own := RL) (name := q_IA) (E := q_IA) (ce := ce9) (q := q9) hown [] ⟨0, 9, 12, 13⟩ [] (by rw [hta]; rfl) (fun z9 h9 => absurd h9 List.not_mem_nil) rfl (by decide) (hts (.classLink RL 13 "java/lang/IllegalArgumentException") (List.mem_of_getElem? (i := 1) rfl)) (va_Nw.use rfl (hXt.2.1 (q_IA, q_IA) (by decide))) hc9 hv9 hcl9 ?_
    refine W.eq (g2 := F0 mi9 12 ls [.ref q9]) rfl ?_
    refine lv_astore (lv' := [(4, .ref q9), (0, .ref xo), (1, .long (lN a)), (3, .ref out)]) hx hb dL_treeDepth_12 hl (by decide) rfl (fun ls hl => ?_)
    refine lv_iconst (v := nI 1) hx hb dL_treeDepth_14 (by decide) ?_
    refine W.widen (k := 1) (n := 6) (Nat.le_of_ble_eq_true rfl) (Nat.le_of_ble_eq_true rfl) ?_
    exact W.iret (v := nI 1) hx hb hr (fun t9 ht hW => ⟨⟨nI 1, fo, rfl, (Or.inr (⟨rfl, hC9⟩)), by show va_P D vwCl _ t9.heap; rw [ht]; exact hP⟩, hS.F ht⟩) hS.2.2 dL_treeDepth_15
  skip
  replace hB : va_P D vwCl [] H_2 := by rw [← ht]; exact hB
  obtain ⟨hP, hD⟩ := q_join (wc := []) (w1 := []) (ws' := [(out, .inl (cO, 1, .inr (.inl fo)))]) [] hP hD rfl rfl hk1 hB rfl
  have hR := q_ro hR0 hna hS
  obtain ⟨rfl, hF8⟩ := hr_1
  refine lv_i2l hx hb dL_treeDepth_7 rfl ?_
  refine va_last (D := D) hx hb hK hP hD hS 0 0 rfl rfl (vp_in_nI (n := 0) (N := 1) (by omega) (by decide)) dL_treeDepth_8 (fun H_6 locs_7 hP hD hS => ?_)
  rw [nI_clamp (n := 0) (by omega)] at hP hD
  have hP : va_P D vwCl [(out, .inl (cO, 1, .inr (.inl (vp_updL fo 0 ((dpv dp (ffi (fun k => decide (wd k = a)) n)).toInt64)))))] H_6 := hP
  have hD : va_D A [(out, .inl (cO, 1, .inr (.inl (vp_updL fo 0 ((dpv dp (ffi (fun k => decide (wd k = a)) n)).toInt64)))))] := hD
  have hR := q_ro hR0 hna hS
  refine lv_goto (tgt := 16) hx hb dL_treeDepth_9 (by decide) ?_
  refine lv_iconst (v := nI 0) hx hb dL_treeDepth_16 (by decide) ?_
  refine W.widen (k := 1) (n := 6) (Nat.le_of_ble_eq_true rfl) (Nat.le_of_ble_eq_true rfl) ?_
  exact W.iret (v := nI 0) hx hb hr (fun t9 ht hW => ⟨⟨nI 0, vp_updL fo 0 ((dpv dp (ffi (fun k => decide (wd k = a)) n)).toInt64), rfl, (Or.inl ⟨rfl, ⟨hF8, rfl⟩⟩), by show va_P D vwCl _ t9.heap; rw [ht]; exact hP⟩, hS.F ht⟩) hS.2.2 dL_treeDepth_17

set_option maxHeartbeats 4000000 in
set_option maxRecDepth 100000 in
/-- law: treeParent -/
theorem c_L_treeParent (l : Launch) (D : va_G) (sz : Nat) (xo : Nat) (gg : Nat) (gr : Nat) (ce : Nat) (tr : Nat) (sh : Nat) (ar : Nat) (ti : Nat) (n1 : Nat) (l1 : Nat) (s2 : Nat) (a2 : Nat) (s3 : Nat) (a3 : Nat) (n2 : Nat) (l2 : Nat) (cS : ClassId) (f : Nat → Option Nat) (ea : Nat → Nat) (wa : Nat → Nat) (pf : Nat → Option Nat) (cn : Nat → Nat) (dp : Nat → Nat) (oc : Nat → Nat) (ic : Nat → Int32) (lf : Nat → Int32) (pt : Nat → Int32) (wd : Nat → Nat) (n : Nat) (pi : Nat → Option Nat) (a : Nat) (out : Nat) (cO : ClassId) (fo : Nat → Int64) (hst : l.stackTraces = false) (hnd : ([out] ++ ([xo, tr, sh, ar] ++ (rg ea n ++ rg wa n))).Nodup) (ha : a < 2 ^ 64) (hfe : ∀ j, j < n → f j = some (ea j)) (hn40 : n ≤ 40) (hg : ∀ k, k < n → gw (wd k)) (hpi : ∀ k, k < n → pf k = (pi k).map ea) (hpn : ∀ k i, k < n → pi k = some i → i < k) : Met l yL_treeParent wsL_treeParent { frames := 8, cells := 1, slots := 6, locals := 126 } (va_Pc [.ref xo, .long (lN a), .ref out] (qWx D sz ([(xo, .inr (8, [.ref gg, .ref tr, .ref ti, .ref s2, .ref s3, .ref n2])), (tr, .inr (5, [.ref sh])), (sh, .inr (4, [.ref ar, .int (nI n)])), (ar, .inl (cS, 40, .inr (.inr (.inr (.inr f)))))] ++ (EW ea wa pf cn dp oc ic lf pt n ++ WW wa wd n)) [(out, .inl (cO, 1, .inr (.inl fo)))] [(cO, .long), (cS, .object "FuzzyFens$Entry")])) (va_Qi (fun (rv : Int32) (uv : (Nat → Int64)) => ((rv = nI 0 ∧ (gw a) ∧ uv 0 = lnn wd ((ffi (fun k => decide (wd k = a)) n).bind pi)) ∨ (rv = nI 1 ∧ ¬ gw a))) (fun (uv : (Nat → Int64)) (tv : State) => va_P D vwCl [(out, .inl (cO, 1, .inr (.inl uv)))] tv.heap) (va_A [(out, .inl (cO, 1, .inr (.inl fo)))] sz)) 1 6 (va_A [(out, .inl (cO, 1, .inr (.inl fo)))] sz) := by
  refine va_MetW (cc := cL_treeParent) (maxL := 5) (ret := (some .int)) (hh := [(0, 8, 11, 13)]) (by decide) rfl ?_
  intro pM eM s mi9 argsM belowM methM cM sM B hml hv
  obtain ⟨rfl, hsz, hR0, hP, hK, hNw, hZ, hXt⟩ := hv
  have hx := B.exec
  have hb := B.bytes
  have hr := B.returns
  have hts := atoms_spec (ws := wsL_treeParent) B.pre
  have hta : cM.exceptionTable.toList = tableOf [(0, 8, 11, 13)] := vx_table (x := yL_treeParent) B (hts (.codeWith yL_treeParent cL_treeParent 5 (some .int) [(0, 8, 11, 13)]) (List.mem_of_getElem? (i := 0) rfl))
  have hown : s.vm.findClass RL = some mi9.cls := findClass_of_methodNamed B.named
  have hlocks := B.notSynchronized
  subst hsz
  have hna := q_na (RW := [(out, .inl (cO, 1, .inr (.inl fo)))]) (RO := [(xo, .inr (8, [.ref gg, .ref tr, .ref ti, .ref s2, .ref s3, .ref n2])), (tr, .inr (5, [.ref sh])), (sh, .inr (4, [.ref ar, .int (nI n)])), (ar, .inl (cS, 40, .inr (.inr (.inr (.inr f)))))] ++ (EW ea wa pf cn dp oc ic lf pt n ++ WW wa wd n)) hnd rfl (by rw [List.map_append, List.map_append, EW_fst, WW_fst]; rfl) hR0
  have hD := q_D (RW := [(out, .inl (cO, 1, .inr (.inl fo)))]) (sz := s.heap.size) hnd rfl
  have hnR : (([(xo, .inr (8, [.ref gg, .ref tr, .ref ti, .ref s2, .ref s3, .ref n2])), (tr, .inr (5, [.ref sh])), (sh, .inr (4, [.ref ar, .int (nI n)])), (ar, .inl (cS, 40, .inr (.inr (.inr (.inr f)))))] ++ (EW ea wa pf cn dp oc ic lf pt n ++ WW wa wd n) : va_W).map (·.1)).Nodup := by rw [show ([(xo, .inr (8, [.ref gg, .ref tr, .ref ti, .ref s2, .ref s3, .ref n2])), (tr, .inr (5, [.ref sh])), (sh, .inr (4, [.ref ar, .int (nI n)])), (ar, .inl (cS, 40, .inr (.inr (.inr (.inr f)))))] ++ (EW ea wa pf cn dp oc ic lf pt n ++ WW wa wd n) : va_W).map (·.1) = ([xo, tr, sh, ar] ++ (rg ea n ++ rg wa n)) from (by rw [List.map_append, List.map_append, EW_fst, WW_fst]; rfl)]; exact (List.nodup_append.mp hnd).2.1
  have hA : ∀ q : Nat, s.heap.size ≤ q → va_A [(out, .inl (cO, 1, .inr (.inl fo)))] s.heap.size q := fun q h => Or.inr h
  generalize hAe : va_A [(out, .inl (cO, 1, .inr (.inl fo)))] s.heap.size = A at hna hD hA hZ ⊢
  have hS : va_S A s.heap s.heap [] := va_S.rf
  have hR := hR0
  have hP : va_P D vwCl [(out, .inl (cO, 1, .inr (.inl fo)))] s.heap := hP
  have hl := lv_entry ([.ref xo, .long (lN a), .ref out]) (n := 5) (Nat.le_of_ble_eq_true rfl)
  rw [lg_entry_eq]
  generalize (lg_sl ([.ref xo, .long (lN a), .ref out]) ++ List.replicate (5 - (lg_sl ([.ref xo, .long (lN a), .ref out])).length) Slot.unset).toArray = ls at hl ⊢
  have hl : lv_has ls 5 [(0, .ref xo), (1, .long (lN a)), (3, .ref out)] := hl
  refine lv_aload_n hx hb dL_treeParent_0 rfl (lv_at hl 2 rfl) ?_
  refine lv_iconst (v := nI 0) hx hb dL_treeParent_1 (by decide) ?_
  refine lv_aload_n hx hb dL_treeParent_2 rfl (lv_at hl 0 rfl) ?_
  refine lv_lload_n hx hb dL_treeParent_3 rfl (lv_at hl 1 rfl) ?_
  have hF := va_free (wc := []) hD hS hA [] rfl
  refine vx_calll (vx_runV (As := [.long (lN a)]) (rest := [.int (nI 0), .ref out]) ⟨hx, hb, hml, hown, hts⟩ (c_X9_treeParent (l := l) (D := D) (xo := xo) (gg := gg) (gr := gr) (ce := ce) (tr := tr) (sh := sh) (ar := ar) (ti := ti) (n1 := n1) (l1 := l1) (s2 := s2) (a2 := a2) (s3 := s3) (a3 := a3) (n2 := n2) (l2 := l2) (cS := cS) (f := f) (ea := ea) (wa := wa) (pf := pf) (cn := cn) (dp := dp) (oc := oc) (ic := ic) (lf := lf) (pt := pt) (wd := wd) (n := n) (pi := pi) (a := a) (sz := s.heap.size) (hnd := (q_ndt hnd [1, 2, 3, 4] rfl rfl)) (hst := hst) (ha := ha) (hfe := hfe) (hn40 := hn40) (hg := hg) (hpi := hpi) (hpn := hpn)) (cwV 1 hts gL_treeParent_X9_treeParent rfl rfl rfl (by decide +kernel) ⟨Nat.le_of_ble_eq_true rfl, Nat.le_of_ble_eq_true rfl⟩) ⟨qWx_blind, (va_recv hK hR (ci := 8) (q0 := 0) rfl rfl), (qWx_of (va_P.app (hR.sub (ws' := [(xo, .inr (8, [.ref gg, .ref tr, .ref ti, .ref s2, .ref s3, .ref n2])), (tr, .inr (5, [.ref sh])), (sh, .inr (4, [.ref ar, .int (nI n)])), (ar, .inl (cS, 40, .inr (.inr (.inr (.inr f)))))]) [0, 1, 2, 3] rfl) (q_right hR)) (q_Pof (fun _ h => absurd h List.not_mem_nil)) (hK.sub (tys' := [(cS, .object "FuzzyFens$Entry")]) [1] rfl) hNw (qZ_at hZ hS (fun q h => hF q h)) hXt)⟩ rfl rfl hl.1 rfl (lv_room (Nat.le_of_ble_eq_true rfl)) dL_treeParent_4 ⟨Nat.le_of_ble_eq_true rfl, Nat.le_of_ble_eq_true rfl⟩) hS (fun q _ h => hF q h) hF (fun q _ h => hF q h) (fun E9 ce9 q9 u9 t9 H9 locs9 ht9 hvm9 hpx9 hBX9 hz9 hk9 hS9 hc9 hv9 hcl9 => ?_) (fun r_1 u_5 t_4 H_2 locs_3 ht hvm hr_1 hB hz1 hk1 hS => ?_)
  · skip
    obtain ⟨hE9, hW9⟩ := hBX9
    replace hW9 : va_P D vwCl [] H9 := by rw [← ht9]; exact hW9
    obtain ⟨hP, hD⟩ := q_join (wc := []) (w1 := []) (ws' := [(out, .inl (cO, 1, .inr (.inl fo)))]) [] hP hD rfl rfl hk9 hW9 rfl
    have hS := hS9
    have hR := q_ro hR0 hna hS
    obtain ⟨rfl, hC9⟩ := hE9
    refine vx_catch (own := RL) (name := q_IA) (E := q_IA) (ce := ce9) (q := q9) hown [] ⟨0, 8, 11, 13⟩ [] (by rw [hta]; rfl) (fun z9 h9 => absurd h9 List.not_mem_nil) rfl (by decide) (hts (.classLink RL 13 "java/lang/IllegalArgumentException") (List.mem_of_getElem? (i := 1) rfl)) (va_Nw.use rfl (hXt.2.1 (q_IA, q_IA) (by decide))) hc9 hv9 hcl9 ?_
    refine W.eq (g2 := F0 mi9 11 ls [.ref q9]) rfl ?_
    refine lv_astore (lv' := [(4, .ref q9), (0, .ref xo), (1, .long (lN a)), (3, .ref out)]) hx hb dL_treeParent_11 hl (by decide) rfl (fun ls hl => ?_)
    refine lv_iconst (v := nI 1) hx hb dL_treeParent_13 (by decide) ?_
    refine W.widen (k := 1) (n := 6) (Nat.le_of_ble_eq_true rfl) (Nat.le_of_ble_eq_true rfl) ?_
    exact W.iret (v := nI 1) hx hb hr (fun t9 ht hW => ⟨⟨nI 1, fo, rfl, (Or.inr (⟨rfl, hC9⟩)), by show va_P D vwCl _ t9.heap; rw [ht]; exact hP⟩, hS.F ht⟩) hS.2.2 dL_treeParent_14
  skip
  replace hB : va_P D vwCl [] H_2 := by rw [← ht]; exact hB
  obtain ⟨hP, hD⟩ := q_join (wc := []) (w1 := []) (ws' := [(out, .inl (cO, 1, .inr (.inl fo)))]) [] hP hD rfl rfl hk1 hB rfl
  have hR := q_ro hR0 hna hS
  obtain ⟨rfl, hF8⟩ := hr_1
  refine va_last (D := D) hx hb hK hP hD hS 0 0 rfl rfl (vp_in_nI (n := 0) (N := 1) (by omega) (by decide)) dL_treeParent_7 (fun H_6 locs_7 hP hD hS => ?_)
  rw [nI_clamp (n := 0) (by omega)] at hP hD
  have hP : va_P D vwCl [(out, .inl (cO, 1, .inr (.inl (vp_updL fo 0 (lnn wd ((ffi (fun k => decide (wd k = a)) n).bind pi))))))] H_6 := hP
  have hD : va_D A [(out, .inl (cO, 1, .inr (.inl (vp_updL fo 0 (lnn wd ((ffi (fun k => decide (wd k = a)) n).bind pi))))))] := hD
  have hR := q_ro hR0 hna hS
  refine lv_goto (tgt := 15) hx hb dL_treeParent_8 (by decide) ?_
  refine lv_iconst (v := nI 0) hx hb dL_treeParent_15 (by decide) ?_
  refine W.widen (k := 1) (n := 6) (Nat.le_of_ble_eq_true rfl) (Nat.le_of_ble_eq_true rfl) ?_
  exact W.iret (v := nI 0) hx hb hr (fun t9 ht hW => ⟨⟨nI 0, vp_updL fo 0 (lnn wd ((ffi (fun k => decide (wd k = a)) n).bind pi)), rfl, (Or.inl ⟨rfl, ⟨hF8, rfl⟩⟩), by show va_P D vwCl _ t9.heap; rw [ht]; exact hP⟩, hS.F ht⟩) hS.2.2 dL_treeParent_16

set_option maxHeartbeats 4000000 in
set_option maxRecDepth 100000 in
/-- law: wordAt -/
theorem c_L_wordAt (l : Launch) (D : va_G) (sz : Nat) (xo : Nat) (gg : Nat) (gr : Nat) (ce : Nat) (tr : Nat) (sh : Nat) (ar : Nat) (ti : Nat) (n1 : Nat) (l1 : Nat) (s2 : Nat) (a2 : Nat) (s3 : Nat) (a3 : Nat) (n2 : Nat) (l2 : Nat) (cS2 : ClassId) (fk : Nat → Option Nat) (m : Nat) (ki : Nat → Nat) (ea : Nat → Nat) (wa : Nat → Nat) (pf : Nat → Option Nat) (cn : Nat → Nat) (dp : Nat → Nat) (oc : Nat → Nat) (ic : Nat → Int32) (lf : Nat → Int32) (pt : Nat → Int32) (wd : Nat → Nat) (n : Nat) (x9 : Int32) (out : Nat) (cO : ClassId) (fo : Nat → Int64) (hst : l.stackTraces = false) (hnd : ([out] ++ ([xo, s2, a2] ++ (rg ea n ++ rg wa n))).Nodup) (hm : m ≤ 40) (hf : ∀ j, j < m → fk j = some (ea (ki j))) (hki : ∀ j, j < m → ki j < n) : Met l yL_wordAt wsL_wordAt { frames := 8, cells := 1, slots := 6, locals := 125 } (va_Pc [.ref xo, .int x9, .ref out] (qWx D sz ([(xo, .inr (8, [.ref gg, .ref tr, .ref ti, .ref s2, .ref s3, .ref n2])), (s2, .inr (4, [.ref a2, .int (nI m)])), (a2, .inl (cS2, 40, .inr (.inr (.inr (.inr fk)))))] ++ (EW ea wa pf cn dp oc ic lf pt n ++ WW wa wd n)) [(out, .inl (cO, 1, .inr (.inl fo)))] [(cO, .long), (cS2, .object "FuzzyFens$Entry")])) (va_Qi (fun (rv : Int32) (uv : (Nat → Int64)) => ((rv = nI 0 ∧ (0 ≤ x9 ∧ x9 < nI m) ∧ uv 0 = lN (wd (ki (kz x9)))) ∨ (rv = nI 1 ∧ ¬ (0 ≤ x9 ∧ x9 < nI m)))) (fun (uv : (Nat → Int64)) (tv : State) => va_P D vwCl [(out, .inl (cO, 1, .inr (.inl uv)))] tv.heap) (va_A [(out, .inl (cO, 1, .inr (.inl fo)))] sz)) 1 6 (va_A [(out, .inl (cO, 1, .inr (.inl fo)))] sz) := by
  refine va_MetW (cc := cL_wordAt) (maxL := 4) (ret := (some .int)) (hh := [(0, 8, 11, 28)]) (by decide) rfl ?_
  intro pM eM s mi9 argsM belowM methM cM sM B hml hv
  obtain ⟨rfl, hsz, hR0, hP, hK, hNw, hZ, hXt⟩ := hv
  have hx := B.exec
  have hb := B.bytes
  have hr := B.returns
  have hts := atoms_spec (ws := wsL_wordAt) B.pre
  have hta : cM.exceptionTable.toList = tableOf [(0, 8, 11, 28)] := vx_table (x := yL_wordAt) B (hts (.codeWith yL_wordAt cL_wordAt 4 (some .int) [(0, 8, 11, 28)]) (List.mem_of_getElem? (i := 0) rfl))
  have hown : s.vm.findClass RL = some mi9.cls := findClass_of_methodNamed B.named
  have hlocks := B.notSynchronized
  subst hsz
  have hna := q_na (RW := [(out, .inl (cO, 1, .inr (.inl fo)))]) (RO := [(xo, .inr (8, [.ref gg, .ref tr, .ref ti, .ref s2, .ref s3, .ref n2])), (s2, .inr (4, [.ref a2, .int (nI m)])), (a2, .inl (cS2, 40, .inr (.inr (.inr (.inr fk)))))] ++ (EW ea wa pf cn dp oc ic lf pt n ++ WW wa wd n)) hnd rfl (by rw [List.map_append, List.map_append, EW_fst, WW_fst]; rfl) hR0
  have hD := q_D (RW := [(out, .inl (cO, 1, .inr (.inl fo)))]) (sz := s.heap.size) hnd rfl
  have hnR : (([(xo, .inr (8, [.ref gg, .ref tr, .ref ti, .ref s2, .ref s3, .ref n2])), (s2, .inr (4, [.ref a2, .int (nI m)])), (a2, .inl (cS2, 40, .inr (.inr (.inr (.inr fk)))))] ++ (EW ea wa pf cn dp oc ic lf pt n ++ WW wa wd n) : va_W).map (·.1)).Nodup := by rw [show ([(xo, .inr (8, [.ref gg, .ref tr, .ref ti, .ref s2, .ref s3, .ref n2])), (s2, .inr (4, [.ref a2, .int (nI m)])), (a2, .inl (cS2, 40, .inr (.inr (.inr (.inr fk)))))] ++ (EW ea wa pf cn dp oc ic lf pt n ++ WW wa wd n) : va_W).map (·.1) = ([xo, s2, a2] ++ (rg ea n ++ rg wa n)) from (by rw [List.map_append, List.map_append, EW_fst, WW_fst]; rfl)]; exact (List.nodup_append.mp hnd).2.1
  have hA : ∀ q : Nat, s.heap.size ≤ q → va_A [(out, .inl (cO, 1, .inr (.inl fo)))] s.heap.size q := fun q h => Or.inr h
  generalize hAe : va_A [(out, .inl (cO, 1, .inr (.inl fo)))] s.heap.size = A at hna hD hA hZ ⊢
  have hS : va_S A s.heap s.heap [] := va_S.rf
  have hR := hR0
  have hP : va_P D vwCl [(out, .inl (cO, 1, .inr (.inl fo)))] s.heap := hP
  have hl := lv_entry ([.ref xo, .int x9, .ref out]) (n := 4) (Nat.le_of_ble_eq_true rfl)
  rw [lg_entry_eq]
  generalize (lg_sl ([.ref xo, .int x9, .ref out]) ++ List.replicate (4 - (lg_sl ([.ref xo, .int x9, .ref out])).length) Slot.unset).toArray = ls at hl ⊢
  have hl : lv_has ls 4 [(0, .ref xo), (1, .int x9), (2, .ref out)] := hl
  refine lv_aload_n hx hb dL_wordAt_0 rfl (lv_at hl 2 rfl) ?_
  refine lv_iconst (v := nI 0) hx hb dL_wordAt_1 (by decide) ?_
  refine lv_aload_n hx hb dL_wordAt_2 rfl (lv_at hl 0 rfl) ?_
  refine lv_iload_n hx hb dL_wordAt_3 rfl (lv_at hl 1 rfl) ?_
  have hF := va_free (wc := []) hD hS hA [] rfl
  refine vx_calll (vx_runV (As := [.int x9]) (rest := [.int (nI 0), .ref out]) ⟨hx, hb, hml, hown, hts⟩ (c_X9_wordAt (l := l) (D := D) (xo := xo) (gg := gg) (gr := gr) (ce := ce) (tr := tr) (sh := sh) (ar := ar) (ti := ti) (n1 := n1) (l1 := l1) (s2 := s2) (a2 := a2) (s3 := s3) (a3 := a3) (n2 := n2) (l2 := l2) (cS2 := cS2) (fk := fk) (m := m) (ki := ki) (ea := ea) (wa := wa) (pf := pf) (cn := cn) (dp := dp) (oc := oc) (ic := ic) (lf := lf) (pt := pt) (wd := wd) (n := n) (x9 := x9) (sz := s.heap.size) (hnd := (q_ndt hnd [1, 2, 3] rfl rfl)) (hst := hst) (hm := hm) (hf := hf) (hki := hki)) (cwV 1 hts gL_wordAt_X9_wordAt rfl rfl rfl (by decide +kernel) ⟨Nat.le_of_ble_eq_true rfl, Nat.le_of_ble_eq_true rfl⟩) ⟨qWx_blind, (va_recv hK hR (ci := 8) (q0 := 0) rfl rfl), (qWx_of (va_P.app (hR.sub (ws' := [(xo, .inr (8, [.ref gg, .ref tr, .ref ti, .ref s2, .ref s3, .ref n2])), (s2, .inr (4, [.ref a2, .int (nI m)])), (a2, .inl (cS2, 40, .inr (.inr (.inr (.inr fk)))))]) [0, 1, 2] rfl) (q_right hR)) (q_Pof (fun _ h => absurd h List.not_mem_nil)) (hK.sub (tys' := [(cS2, .object "FuzzyFens$Entry")]) [1] rfl) hNw (qZ_at hZ hS (fun q h => hF q h)) hXt)⟩ rfl rfl hl.1 rfl (lv_room (Nat.le_of_ble_eq_true rfl)) dL_wordAt_4 ⟨Nat.le_of_ble_eq_true rfl, Nat.le_of_ble_eq_true rfl⟩) hS (fun q _ h => hF q h) hF (fun q _ h => hF q h) (fun E9 ce9 q9 u9 t9 H9 locs9 ht9 hvm9 hpx9 hBX9 hz9 hk9 hS9 hc9 hv9 hcl9 => ?_) (fun r_1 u_5 t_4 H_2 locs_3 ht hvm hr_1 hB hz1 hk1 hS => ?_)
  · skip
    obtain ⟨hE9, hW9⟩ := hBX9
    replace hW9 : va_P D vwCl [] H9 := by rw [← ht9]; exact hW9
    obtain ⟨hP, hD⟩ := q_join (wc := []) (w1 := []) (ws' := [(out, .inl (cO, 1, .inr (.inl fo)))]) [] hP hD rfl rfl hk9 hW9 rfl
    have hS := hS9
    have hR := q_ro hR0 hna hS
    obtain ⟨rfl, hC9⟩ := hE9
    refine vx_catch (own := RL) (name := q_IO) (E := q_IO) (ce := ce9) (q := q9) hown [] ⟨0, 8, 11, 28⟩ [] (by rw [hta]; rfl) (fun z9 h9 => absurd h9 List.not_mem_nil) rfl (by decide) (hts (.classLink RL 28 "java/lang/IndexOutOfBoundsException") (List.mem_of_getElem? (i := 1) rfl)) (va_Nw.use rfl (hXt.2.1 (q_IO, q_IO) (by decide))) hc9 hv9 hcl9 ?_
    refine W.eq (g2 := F0 mi9 11 ls [.ref q9]) rfl ?_
    refine lv_astore_n (lv' := [(3, .ref q9), (0, .ref xo), (1, .int x9), (2, .ref out)]) hx hb dL_wordAt_11 rfl hl (by decide) rfl (fun ls hl => ?_)
    refine lv_iconst (v := nI 1) hx hb dL_wordAt_12 (by decide) ?_
    refine W.widen (k := 1) (n := 6) (Nat.le_of_ble_eq_true rfl) (Nat.le_of_ble_eq_true rfl) ?_
    exact W.iret (v := nI 1) hx hb hr (fun t9 ht hW => ⟨⟨nI 1, fo, rfl, (Or.inr (⟨rfl, hC9⟩)), by show va_P D vwCl _ t9.heap; rw [ht]; exact hP⟩, hS.F ht⟩) hS.2.2 dL_wordAt_13
  skip
  replace hB : va_P D vwCl [] H_2 := by rw [← ht]; exact hB
  obtain ⟨hP, hD⟩ := q_join (wc := []) (w1 := []) (ws' := [(out, .inl (cO, 1, .inr (.inl fo)))]) [] hP hD rfl rfl hk1 hB rfl
  have hR := q_ro hR0 hna hS
  obtain ⟨rfl, hF8⟩ := hr_1
  refine va_last (D := D) hx hb hK hP hD hS 0 0 rfl rfl (vp_in_nI (n := 0) (N := 1) (by omega) (by decide)) dL_wordAt_7 (fun H_6 locs_7 hP hD hS => ?_)
  rw [nI_clamp (n := 0) (by omega)] at hP hD
  have hP : va_P D vwCl [(out, .inl (cO, 1, .inr (.inl (vp_updL fo 0 (lN (wd (ki (kz x9))))))))] H_6 := hP
  have hD : va_D A [(out, .inl (cO, 1, .inr (.inl (vp_updL fo 0 (lN (wd (ki (kz x9))))))))] := hD
  have hR := q_ro hR0 hna hS
  refine lv_goto (tgt := 14) hx hb dL_wordAt_8 (by decide) ?_
  refine lv_iconst (v := nI 0) hx hb dL_wordAt_14 (by decide) ?_
  refine W.widen (k := 1) (n := 6) (Nat.le_of_ble_eq_true rfl) (Nat.le_of_ble_eq_true rfl) ?_
  exact W.iret (v := nI 0) hx hb hr (fun t9 ht hW => ⟨⟨nI 0, vp_updL fo 0 (lN (wd (ki (kz x9)))), rfl, (Or.inl ⟨rfl, ⟨hF8, rfl⟩⟩), by show va_P D vwCl _ t9.heap; rw [ht]; exact hP⟩, hS.F ht⟩) hS.2.2 dL_wordAt_15

set_option maxHeartbeats 4000000 in
set_option maxRecDepth 100000 in
/-- law: areNeighbours -/
theorem c_L_areNeighbours (l : Launch) (D : va_G) (sz : Nat) (xo : Nat) (gg : Nat) (gr : Nat) (ce : Nat) (tr : Nat) (sh : Nat) (ar : Nat) (ti : Nat) (n1 : Nat) (l1 : Nat) (s2 : Nat) (a2 : Nat) (s3 : Nat) (a3 : Nat) (n2 : Nat) (l2 : Nat) (x9 : Int32) (y9 : Int32) (out : Nat) (cO : ClassId) (fo : Nat → Int64) (hst : l.stackTraces = false) (hnd : ([out] ++ [xo]).Nodup)  : Met l yL_areNeighbours wsL_areNeighbours { frames := 8, cells := 2, slots := 12, locals := 126 } (va_Pc [.ref xo, .int x9, .int y9, .ref out] (qWx D sz ([(xo, .inr (8, [.ref gg, .ref tr, .ref ti, .ref s2, .ref s3, .ref n2]))]) [(out, .inl (cO, 1, .inr (.inl fo)))] [(cO, .long)])) (va_Qi (fun (rv : Int32) (uv : (Nat → Int64)) => ((rv = nI 0 ∧ ((nI 1 ≤ x9 ∧ x9 ≤ nI 26) ∧ (nI 1 ≤ y9 ∧ y9 ≤ nI 26)) ∧ ((nbr (kz x9) (kz y9) ∧ uv 0 = lN 1) ∨ (¬ nbr (kz x9) (kz y9) ∧ uv 0 = lN 0))) ∨ (rv = nI 1 ∧ ¬ ((nI 1 ≤ x9 ∧ x9 ≤ nI 26) ∧ (nI 1 ≤ y9 ∧ y9 ≤ nI 26))))) (fun (uv : (Nat → Int64)) (tv : State) => va_P D vwCl [(out, .inl (cO, 1, .inr (.inl uv)))] tv.heap) (va_A [(out, .inl (cO, 1, .inr (.inl fo)))] sz)) 2 12 (va_A [(out, .inl (cO, 1, .inr (.inl fo)))] sz) := by
  refine va_MetW (cc := cL_areNeighbours) (maxL := 5) (ret := (some .int)) (hh := [(0, 17, 20, 13)]) (by decide) rfl ?_
  intro pM eM s mi9 argsM belowM methM cM sM B hml hv
  obtain ⟨rfl, hsz, hR0, hP, hK, hNw, hZ, hXt⟩ := hv
  have hx := B.exec
  have hb := B.bytes
  have hr := B.returns
  have hts := atoms_spec (ws := wsL_areNeighbours) B.pre
  have hta : cM.exceptionTable.toList = tableOf [(0, 17, 20, 13)] := vx_table (x := yL_areNeighbours) B (hts (.codeWith yL_areNeighbours cL_areNeighbours 5 (some .int) [(0, 17, 20, 13)]) (List.mem_of_getElem? (i := 0) rfl))
  have hown : s.vm.findClass RL = some mi9.cls := findClass_of_methodNamed B.named
  have hlocks := B.notSynchronized
  subst hsz
  have hna := q_na (RW := [(out, .inl (cO, 1, .inr (.inl fo)))]) (RO := [(xo, .inr (8, [.ref gg, .ref tr, .ref ti, .ref s2, .ref s3, .ref n2]))]) hnd rfl rfl hR0
  have hD := q_D (RW := [(out, .inl (cO, 1, .inr (.inl fo)))]) (sz := s.heap.size) hnd rfl
  have hnR : (([(xo, .inr (8, [.ref gg, .ref tr, .ref ti, .ref s2, .ref s3, .ref n2]))] : va_W).map (·.1)).Nodup := by rw [show ([(xo, .inr (8, [.ref gg, .ref tr, .ref ti, .ref s2, .ref s3, .ref n2]))] : va_W).map (·.1) = [xo] from rfl]; exact (List.nodup_append.mp hnd).2.1
  have hA : ∀ q : Nat, s.heap.size ≤ q → va_A [(out, .inl (cO, 1, .inr (.inl fo)))] s.heap.size q := fun q h => Or.inr h
  generalize hAe : va_A [(out, .inl (cO, 1, .inr (.inl fo)))] s.heap.size = A at hna hD hA hZ ⊢
  have hS : va_S A s.heap s.heap [] := va_S.rf
  have hR := hR0
  have hP : va_P D vwCl [(out, .inl (cO, 1, .inr (.inl fo)))] s.heap := hP
  have hl := lv_entry ([.ref xo, .int x9, .int y9, .ref out]) (n := 5) (Nat.le_of_ble_eq_true rfl)
  rw [lg_entry_eq]
  generalize (lg_sl ([.ref xo, .int x9, .int y9, .ref out]) ++ List.replicate (5 - (lg_sl ([.ref xo, .int x9, .int y9, .ref out])).length) Slot.unset).toArray = ls at hl ⊢
  have hl : lv_has ls 5 [(0, .ref xo), (1, .int x9), (2, .int y9), (3, .ref out)] := hl
  refine lv_aload_n hx hb dL_areNeighbours_0 rfl (lv_at hl 3 rfl) ?_
  refine lv_iconst (v := nI 0) hx hb dL_areNeighbours_1 (by decide) ?_
  refine lv_aload_n hx hb dL_areNeighbours_2 rfl (lv_at hl 0 rfl) ?_
  refine lv_iload_n hx hb dL_areNeighbours_3 rfl (lv_at hl 1 rfl) ?_
  refine lv_iload_n hx hb dL_areNeighbours_4 rfl (lv_at hl 2 rfl) ?_
  have hF := va_free (wc := []) hD hS hA [] rfl
  refine vx_calli (vx_runV (As := [.int x9, .int y9]) (rest := [.int (nI 0), .ref out]) ⟨hx, hb, hml, hown, hts⟩ (c_X9_areNeighbours (l := l) (D := D) (xo := xo) (x9 := x9) (y9 := y9) (sz := s.heap.size) (hnd := (q_nds hnd [] rfl rfl)) (hst := hst) ) (cwV 2 hts gL_areNeighbours_X9_areNeighbours rfl rfl rfl (by decide +kernel) ⟨Nat.le_of_ble_eq_true rfl, Nat.le_of_ble_eq_true rfl⟩) ⟨qWx_blind, (va_recv hK hR (ci := 8) (q0 := 0) rfl rfl), (qWx_of (q_Pof (fun _ h => absurd h List.not_mem_nil)) (q_Pof (fun _ h => absurd h List.not_mem_nil)) (hK.sub (tys' := []) [] rfl) hNw (qZ_at hZ hS (fun q h => hF q h)) hXt)⟩ rfl rfl hl.1 rfl (lv_room (Nat.le_of_ble_eq_true rfl)) dL_areNeighbours_5 ⟨Nat.le_of_ble_eq_true rfl, Nat.le_of_ble_eq_true rfl⟩) hS (fun q _ h => hF q h) hF (fun q _ h => hF q h) (fun E9 ce9 q9 u9 t9 H9 locs9 ht9 hvm9 hpx9 hBX9 hz9 hk9 hS9 hc9 hv9 hcl9 => ?_) (fun r_1 u_5 t_4 H_2 locs_3 ht hvm hr_1 hB hz1 hk1 hS => ?_)
  · skip
    obtain ⟨hE9, hW9⟩ := hBX9
    replace hW9 : va_P D vwCl [] H9 := by rw [← ht9]; exact hW9
    obtain ⟨hP, hD⟩ := q_join (wc := []) (w1 := []) (ws' := [(out, .inl (cO, 1, .inr (.inl fo)))]) [] hP hD rfl rfl hk9 hW9 rfl
    have hS := hS9
    have hR := q_ro hR0 hna hS
    obtain ⟨rfl, hC9⟩ := hE9
    refine vx_catch (own := RL) (name := q_IA) (E := q_IA) (ce := ce9) (q := q9) hown [] ⟨0, 17, 20, 13⟩ [] (by rw [hta]; rfl) (fun z9 h9 => absurd h9 List.not_mem_nil) rfl (by decide) (hts (.classLink RL 13 "java/lang/IllegalArgumentException") (List.mem_of_getElem? (i := 1) rfl)) (va_Nw.use rfl (hXt.2.1 (q_IA, q_IA) (by decide))) hc9 hv9 hcl9 ?_
    refine W.eq (g2 := F0 mi9 20 ls [.ref q9]) rfl ?_
    refine lv_astore (lv' := [(4, .ref q9), (0, .ref xo), (1, .int x9), (2, .int y9), (3, .ref out)]) hx hb dL_areNeighbours_20 hl (by decide) rfl (fun ls hl => ?_)
    refine lv_iconst (v := nI 1) hx hb dL_areNeighbours_22 (by decide) ?_
    refine W.widen (k := 2) (n := 12) (Nat.le_of_ble_eq_true rfl) (Nat.le_of_ble_eq_true rfl) ?_
    exact W.iret (v := nI 1) hx hb hr (fun t9 ht hW => ⟨⟨nI 1, fo, rfl, (Or.inr (⟨rfl, hC9⟩)), by show va_P D vwCl _ t9.heap; rw [ht]; exact hP⟩, hS.F ht⟩) hS.2.2 dL_areNeighbours_23
  skip
  replace hB : va_P D vwCl [] H_2 := by rw [← ht]; exact hB
  obtain ⟨hP, hD⟩ := q_join (wc := []) (w1 := []) (ws' := [(out, .inl (cO, 1, .inr (.inl fo)))]) [] hP hD rfl rfl hk1 hB rfl
  have hR := q_ro hR0 hna hS
  obtain ⟨rfl, hF8⟩ := hr_1
  refine q_ifb_eq (tgt := 15) hx hb dL_areNeighbours_8 (by decide) (fun c_8 => ?_) (fun c_8 => ?_)
  · skip
    refine lv_lconst (v := lN 0) hx hb dL_areNeighbours_15 (by decide) ?_
    refine va_last (D := D) hx hb hK hP hD hS 0 0 rfl rfl (vp_in_nI (n := 0) (N := 1) (by omega) (by decide)) dL_areNeighbours_16 (fun H_6 locs_7 hP hD hS => ?_)
    rw [nI_clamp (n := 0) (by omega)] at hP hD
    have hP : va_P D vwCl [(out, .inl (cO, 1, .inr (.inl (vp_updL fo 0 (lN 0)))))] H_6 := hP
    have hD : va_D A [(out, .inl (cO, 1, .inr (.inl (vp_updL fo 0 (lN 0)))))] := hD
    have hR := q_ro hR0 hna hS
    refine lv_goto (tgt := 24) hx hb dL_areNeighbours_17 (by decide) ?_
    refine lv_iconst (v := nI 0) hx hb dL_areNeighbours_24 (by decide) ?_
    refine W.widen (k := 2) (n := 12) (Nat.le_of_ble_eq_true rfl) (Nat.le_of_ble_eq_true rfl) ?_
    exact W.iret (v := nI 0) hx hb hr (fun t9 ht hW => ⟨⟨nI 0, vp_updL fo 0 (lN 0), rfl, (Or.inl ⟨rfl, hF8, (by first | exact Or.inl ⟨c_8, rfl⟩ | exact Or.inr ⟨c_8, rfl⟩)⟩), by show va_P D vwCl _ t9.heap; rw [ht]; exact hP⟩, hS.F ht⟩) hS.2.2 dL_areNeighbours_25
  · skip
    refine lv_lconst (v := lN 1) hx hb dL_areNeighbours_11 (by decide) ?_
    refine lv_goto (tgt := 16) hx hb dL_areNeighbours_12 (by decide) ?_
    refine va_last (D := D) hx hb hK hP hD hS 0 0 rfl rfl (vp_in_nI (n := 0) (N := 1) (by omega) (by decide)) dL_areNeighbours_16 (fun H_8 locs_9 hP hD hS => ?_)
    rw [nI_clamp (n := 0) (by omega)] at hP hD
    have hP : va_P D vwCl [(out, .inl (cO, 1, .inr (.inl (vp_updL fo 0 (lN 1)))))] H_8 := hP
    have hD : va_D A [(out, .inl (cO, 1, .inr (.inl (vp_updL fo 0 (lN 1)))))] := hD
    have hR := q_ro hR0 hna hS
    refine lv_goto (tgt := 24) hx hb dL_areNeighbours_17 (by decide) ?_
    refine lv_iconst (v := nI 0) hx hb dL_areNeighbours_24 (by decide) ?_
    refine W.widen (k := 2) (n := 12) (Nat.le_of_ble_eq_true rfl) (Nat.le_of_ble_eq_true rfl) ?_
    exact W.iret (v := nI 0) hx hb hr (fun t9 ht hW => ⟨⟨nI 0, vp_updL fo 0 (lN 1), rfl, (Or.inl ⟨rfl, hF8, (by first | exact Or.inl ⟨c_8, rfl⟩ | exact Or.inr ⟨c_8, rfl⟩)⟩), by show va_P D vwCl _ t9.heap; rw [ht]; exact hP⟩, hS.F ht⟩) hS.2.2 dL_areNeighbours_25

set_option maxHeartbeats 4000000 in
set_option maxRecDepth 100000 in
/-- law: distance -/
theorem c_L_distance (l : Launch) (D : va_G) (sz : Nat) (xo : Nat) (gg : Nat) (gr : Nat) (ce : Nat) (tr : Nat) (sh : Nat) (ar : Nat) (ti : Nat) (n1 : Nat) (l1 : Nat) (s2 : Nat) (a2 : Nat) (s3 : Nat) (a3 : Nat) (n2 : Nat) (l2 : Nat) (cG : ClassId) (fc : Nat → Int32) (a : Nat) (b : Nat) (out : Nat) (cO : ClassId) (fo : Nat → Int64) (hst : l.stackTraces = false) (hnd : ([out, ce] ++ [xo, gg, gr]).Nodup) (ha : a < 2 ^ 64) (hb9 : b < 2 ^ 64) : Met l yL_distance wsL_distance { frames := 8, cells := 2, slots := 12, locals := 127 } (va_Pc [.ref xo, .long (lN a), .long (lN b), .ref out] (qWx D sz ([(xo, .inr (8, [.ref gg, .ref tr, .ref ti, .ref s2, .ref s3, .ref n2])), (gg, .inr (1, [.ref gr])), (gr, .inr (2, [.ref ce]))]) [(out, .inl (cO, 1, .inr (.inl fo))), (ce, .inl (cG, 121, .inl fc))] [(cO, .long), (cG, .int)])) (va_Qi (fun (rv : Int32) (uv : (Nat → Int32) × (Nat → Int64)) => ((rv = nI 0 ∧ (gw a ∧ gw b) ∧ uv.2 0 = (nI (lev (ltz a) (ltz b) (wl a) (wl b))).toInt64) ∨ (rv = nI 1 ∧ ¬ (gw a ∧ gw b)))) (fun (uv : (Nat → Int32) × (Nat → Int64)) (tv : State) => va_P D vwCl [(out, .inl (cO, 1, .inr (.inl uv.2))), (ce, .inl (cG, 121, .inl uv.1))] tv.heap) (va_A [(out, .inl (cO, 1, .inr (.inl fo))), (ce, .inl (cG, 121, .inl fc))] sz)) 2 12 (va_A [(out, .inl (cO, 1, .inr (.inl fo))), (ce, .inl (cG, 121, .inl fc))] sz) := by
  refine va_MetW (cc := cL_distance) (maxL := 7) (ret := (some .int)) (hh := [(0, 11, 14, 13)]) (by decide) rfl ?_
  intro pM eM s mi9 argsM belowM methM cM sM B hml hv
  obtain ⟨rfl, hsz, hR0, hP, hK, hNw, hZ, hXt⟩ := hv
  have hx := B.exec
  have hb := B.bytes
  have hr := B.returns
  have hts := atoms_spec (ws := wsL_distance) B.pre
  have hta : cM.exceptionTable.toList = tableOf [(0, 11, 14, 13)] := vx_table (x := yL_distance) B (hts (.codeWith yL_distance cL_distance 7 (some .int) [(0, 11, 14, 13)]) (List.mem_of_getElem? (i := 0) rfl))
  have hown : s.vm.findClass RL = some mi9.cls := findClass_of_methodNamed B.named
  have hlocks := B.notSynchronized
  subst hsz
  have hna := q_na (RW := [(out, .inl (cO, 1, .inr (.inl fo))), (ce, .inl (cG, 121, .inl fc))]) (RO := [(xo, .inr (8, [.ref gg, .ref tr, .ref ti, .ref s2, .ref s3, .ref n2])), (gg, .inr (1, [.ref gr])), (gr, .inr (2, [.ref ce]))]) hnd rfl rfl hR0
  have hD := q_D (RW := [(out, .inl (cO, 1, .inr (.inl fo))), (ce, .inl (cG, 121, .inl fc))]) (sz := s.heap.size) hnd rfl
  have hnR : (([(xo, .inr (8, [.ref gg, .ref tr, .ref ti, .ref s2, .ref s3, .ref n2])), (gg, .inr (1, [.ref gr])), (gr, .inr (2, [.ref ce]))] : va_W).map (·.1)).Nodup := by rw [show ([(xo, .inr (8, [.ref gg, .ref tr, .ref ti, .ref s2, .ref s3, .ref n2])), (gg, .inr (1, [.ref gr])), (gr, .inr (2, [.ref ce]))] : va_W).map (·.1) = [xo, gg, gr] from rfl]; exact (List.nodup_append.mp hnd).2.1
  have hA : ∀ q : Nat, s.heap.size ≤ q → va_A [(out, .inl (cO, 1, .inr (.inl fo))), (ce, .inl (cG, 121, .inl fc))] s.heap.size q := fun q h => Or.inr h
  generalize hAe : va_A [(out, .inl (cO, 1, .inr (.inl fo))), (ce, .inl (cG, 121, .inl fc))] s.heap.size = A at hna hD hA hZ ⊢
  have hS : va_S A s.heap s.heap [] := va_S.rf
  have hR := hR0
  have hP : va_P D vwCl [(out, .inl (cO, 1, .inr (.inl fo))), (ce, .inl (cG, 121, .inl fc))] s.heap := hP
  have hl := lv_entry ([.ref xo, .long (lN a), .long (lN b), .ref out]) (n := 7) (Nat.le_of_ble_eq_true rfl)
  rw [lg_entry_eq]
  generalize (lg_sl ([.ref xo, .long (lN a), .long (lN b), .ref out]) ++ List.replicate (7 - (lg_sl ([.ref xo, .long (lN a), .long (lN b), .ref out])).length) Slot.unset).toArray = ls at hl ⊢
  have hl : lv_has ls 7 [(0, .ref xo), (1, .long (lN a)), (3, .long (lN b)), (5, .ref out)] := hl
  refine lv_aload hx hb dL_distance_0 (lv_at hl 3 rfl) ?_
  refine lv_iconst (v := nI 0) hx hb dL_distance_2 (by decide) ?_
  refine lv_aload_n hx hb dL_distance_3 rfl (lv_at hl 0 rfl) ?_
  refine lv_lload_n hx hb dL_distance_4 rfl (lv_at hl 1 rfl) ?_
  refine lv_lload_n hx hb dL_distance_5 rfl (lv_at hl 2 rfl) ?_
  have hF := va_free (wc := [(ce, .inl (cG, 121, .inl fc))]) hD hS hA [1] rfl
  refine vx_calli (vx_runV (As := [.long (lN a), .long (lN b)]) (rest := [.int (nI 0), .ref out]) ⟨hx, hb, hml, hown, hts⟩ (c_X9_distance (l := l) (D := D) (xo := xo) (gg := gg) (gr := gr) (ce := ce) (tr := tr) (sh := sh) (ar := ar) (ti := ti) (n1 := n1) (l1 := l1) (s2 := s2) (a2 := a2) (s3 := s3) (a3 := a3) (n2 := n2) (l2 := l2) (cG := cG) (fc := fc) (a := a) (b := b) (sz := s.heap.size) (hnd := (q_nds hnd [1, 2, 3, 4] rfl rfl)) (hst := hst) (ha := ha) (hb9 := hb9)) (cwV 2 hts gL_distance_X9_distance rfl rfl rfl (by decide +kernel) ⟨Nat.le_of_ble_eq_true rfl, Nat.le_of_ble_eq_true rfl⟩) ⟨qWx_blind, (va_recv hK hR (ci := 8) (q0 := 0) rfl rfl), (qWx_of (hR.sub (ws' := [(xo, .inr (8, [.ref gg, .ref tr, .ref ti, .ref s2, .ref s3, .ref n2])), (gg, .inr (1, [.ref gr])), (gr, .inr (2, [.ref ce]))]) [0, 1, 2] rfl) (hP.sub (ws' := [(ce, .inl (cG, 121, .inl fc))]) [1] rfl) (hK.sub (tys' := [(cG, .int)]) [1] rfl) hNw (qZ_at hZ hS (fun q h => hF q h)) hXt)⟩ rfl rfl hl.1 rfl (lv_room (Nat.le_of_ble_eq_true rfl)) dL_distance_6 ⟨Nat.le_of_ble_eq_true rfl, Nat.le_of_ble_eq_true rfl⟩) hS (fun q _ h => hF q h) hF (fun q _ h => hF q h) (fun E9 ce9 q9 u9 t9 H9 locs9 ht9 hvm9 hpx9 hBX9 hz9 hk9 hS9 hc9 hv9 hcl9 => ?_) (fun r_1 u_5 t_4 H_2 locs_3 ht hvm hr_1 hB hz1 hk1 hS => ?_)
  · skip
    obtain ⟨hE9, hW9⟩ := hBX9
    replace hW9 : va_P D vwCl [(ce, .inl (cG, 121, .inl fc))] H9 := by rw [← ht9]; exact hW9
    obtain ⟨hP, hD⟩ := q_join (wc := [(ce, .inl (cG, 121, .inl fc))]) (w1 := [(ce, .inl (cG, 121, .inl fc))]) (ws' := [(out, .inl (cO, 1, .inr (.inl fo))), (ce, .inl (cG, 121, .inl fc))]) [1] hP hD rfl rfl hk9 hW9 rfl
    have hS := hS9
    have hR := q_ro hR0 hna hS
    obtain ⟨rfl, hC9⟩ := hE9
    refine vx_catch (own := RL) (name := q_IA) (E := q_IA) (ce := ce9) (q := q9) hown [] ⟨0, 11, 14, 13⟩ [] (by rw [hta]; rfl) (fun z9 h9 => absurd h9 List.not_mem_nil) rfl (by decide) (hts (.classLink RL 13 "java/lang/IllegalArgumentException") (List.mem_of_getElem? (i := 1) rfl)) (va_Nw.use rfl (hXt.2.1 (q_IA, q_IA) (by decide))) hc9 hv9 hcl9 ?_
    refine W.eq (g2 := F0 mi9 14 ls [.ref q9]) rfl ?_
    refine lv_astore (lv' := [(6, .ref q9), (0, .ref xo), (1, .long (lN a)), (3, .long (lN b)), (5, .ref out)]) hx hb dL_distance_14 hl (by decide) rfl (fun ls hl => ?_)
    refine lv_iconst (v := nI 1) hx hb dL_distance_16 (by decide) ?_
    refine W.widen (k := 2) (n := 12) (Nat.le_of_ble_eq_true rfl) (Nat.le_of_ble_eq_true rfl) ?_
    exact W.iret (v := nI 1) hx hb hr (fun t9 ht hW => ⟨⟨nI 1, (fc, fo), rfl, (Or.inr (⟨rfl, hC9⟩)), by show va_P D vwCl _ t9.heap; rw [ht]; exact hP⟩, hS.F ht⟩) hS.2.2 dL_distance_17
  skip
  obtain ⟨fc2_6, rfl⟩ : ∃ z, z = u_5 := ⟨_, rfl⟩
  replace hB : va_P D vwCl [(ce, .inl (cG, 121, .inl fc2_6))] H_2 := by rw [← ht]; exact hB
  obtain ⟨hP, hD⟩ := q_join (wc := [(ce, .inl (cG, 121, .inl fc))]) (w1 := [(ce, .inl (cG, 121, .inl fc2_6))]) (ws' := [(out, .inl (cO, 1, .inr (.inl fo))), (ce, .inl (cG, 121, .inl fc2_6))]) [1] hP hD rfl rfl hk1 hB rfl
  have hR := q_ro hR0 hna hS
  obtain ⟨rfl, hF8⟩ := hr_1
  refine lv_i2l hx hb dL_distance_9 rfl ?_
  refine va_last (D := D) hx hb hK hP hD hS 0 0 rfl rfl (vp_in_nI (n := 0) (N := 1) (by omega) (by decide)) dL_distance_10 (fun H_7 locs_8 hP hD hS => ?_)
  rw [nI_clamp (n := 0) (by omega)] at hP hD
  have hP : va_P D vwCl [(out, .inl (cO, 1, .inr (.inl (vp_updL fo 0 ((nI (lev (ltz a) (ltz b) (wl a) (wl b))).toInt64))))), (ce, .inl (cG, 121, .inl fc2_6))] H_7 := hP
  have hD : va_D A [(out, .inl (cO, 1, .inr (.inl (vp_updL fo 0 ((nI (lev (ltz a) (ltz b) (wl a) (wl b))).toInt64))))), (ce, .inl (cG, 121, .inl fc2_6))] := hD
  have hR := q_ro hR0 hna hS
  refine lv_goto (tgt := 18) hx hb dL_distance_11 (by decide) ?_
  refine lv_iconst (v := nI 0) hx hb dL_distance_18 (by decide) ?_
  refine W.widen (k := 2) (n := 12) (Nat.le_of_ble_eq_true rfl) (Nat.le_of_ble_eq_true rfl) ?_
  exact W.iret (v := nI 0) hx hb hr (fun t9 ht hW => ⟨⟨nI 0, (fc2_6, vp_updL fo 0 ((nI (lev (ltz a) (ltz b) (wl a) (wl b))).toInt64)), rfl, (Or.inl ⟨rfl, ⟨hF8, rfl⟩⟩), by show va_P D vwCl _ t9.heap; rw [ht]; exact hP⟩, hS.F ht⟩) hS.2.2 dL_distance_19

set_option maxHeartbeats 4000000 in
set_option maxRecDepth 100000 in
/-- law: price -/
theorem c_L_price (l : Launch) (D : va_G) (sz : Nat) (xo : Nat) (gg : Nat) (gr : Nat) (ce : Nat) (tr : Nat) (sh : Nat) (ar : Nat) (ti : Nat) (n1 : Nat) (l1 : Nat) (s2 : Nat) (a2 : Nat) (s3 : Nat) (a3 : Nat) (n2 : Nat) (l2 : Nat) (cG : ClassId) (fc : Nat → Int32) (a : Nat) (b : Nat) (out : Nat) (cO : ClassId) (fo : Nat → Int64) (hst : l.stackTraces = false) (hnd : ([out, ce] ++ [xo, gg, gr]).Nodup) (ha : a < 2 ^ 64) (hb9 : b < 2 ^ 64) : Met l yL_price wsL_price { frames := 8, cells := 2, slots := 12, locals := 139 } (va_Pc [.ref xo, .long (lN a), .long (lN b), .ref out] (qWx D sz ([(xo, .inr (8, [.ref gg, .ref tr, .ref ti, .ref s2, .ref s3, .ref n2])), (gg, .inr (1, [.ref gr])), (gr, .inr (2, [.ref ce]))]) [(out, .inl (cO, 1, .inr (.inl fo))), (ce, .inl (cG, 121, .inl fc))] [(cO, .long), (cG, .int)])) (va_Qi (fun (rv : Int32) (uv : (Nat → Int32) × (Nat → Int64)) => ((rv = nI 0 ∧ (gw a ∧ gw b) ∧ uv.2 0 = (nI (pr (ltz a) (ltz b) (wl a) (wl b))).toInt64) ∨ (rv = nI 1 ∧ ¬ (gw a ∧ gw b)))) (fun (uv : (Nat → Int32) × (Nat → Int64)) (tv : State) => va_P D vwCl [(out, .inl (cO, 1, .inr (.inl uv.2))), (ce, .inl (cG, 121, .inl uv.1))] tv.heap) (va_A [(out, .inl (cO, 1, .inr (.inl fo))), (ce, .inl (cG, 121, .inl fc))] sz)) 2 12 (va_A [(out, .inl (cO, 1, .inr (.inl fo))), (ce, .inl (cG, 121, .inl fc))] sz) := by
  refine va_MetW (cc := cL_price) (maxL := 7) (ret := (some .int)) (hh := [(0, 11, 14, 13)]) (by decide) rfl ?_
  intro pM eM s mi9 argsM belowM methM cM sM B hml hv
  obtain ⟨rfl, hsz, hR0, hP, hK, hNw, hZ, hXt⟩ := hv
  have hx := B.exec
  have hb := B.bytes
  have hr := B.returns
  have hts := atoms_spec (ws := wsL_price) B.pre
  have hta : cM.exceptionTable.toList = tableOf [(0, 11, 14, 13)] := vx_table (x := yL_price) B (hts (.codeWith yL_price cL_price 7 (some .int) [(0, 11, 14, 13)]) (List.mem_of_getElem? (i := 0) rfl))
  have hown : s.vm.findClass RL = some mi9.cls := findClass_of_methodNamed B.named
  have hlocks := B.notSynchronized
  subst hsz
  have hna := q_na (RW := [(out, .inl (cO, 1, .inr (.inl fo))), (ce, .inl (cG, 121, .inl fc))]) (RO := [(xo, .inr (8, [.ref gg, .ref tr, .ref ti, .ref s2, .ref s3, .ref n2])), (gg, .inr (1, [.ref gr])), (gr, .inr (2, [.ref ce]))]) hnd rfl rfl hR0
  have hD := q_D (RW := [(out, .inl (cO, 1, .inr (.inl fo))), (ce, .inl (cG, 121, .inl fc))]) (sz := s.heap.size) hnd rfl
  have hnR : (([(xo, .inr (8, [.ref gg, .ref tr, .ref ti, .ref s2, .ref s3, .ref n2])), (gg, .inr (1, [.ref gr])), (gr, .inr (2, [.ref ce]))] : va_W).map (·.1)).Nodup := by rw [show ([(xo, .inr (8, [.ref gg, .ref tr, .ref ti, .ref s2, .ref s3, .ref n2])), (gg, .inr (1, [.ref gr])), (gr, .inr (2, [.ref ce]))] : va_W).map (·.1) = [xo, gg, gr] from rfl]; exact (List.nodup_append.mp hnd).2.1
  have hA : ∀ q : Nat, s.heap.size ≤ q → va_A [(out, .inl (cO, 1, .inr (.inl fo))), (ce, .inl (cG, 121, .inl fc))] s.heap.size q := fun q h => Or.inr h
  generalize hAe : va_A [(out, .inl (cO, 1, .inr (.inl fo))), (ce, .inl (cG, 121, .inl fc))] s.heap.size = A at hna hD hA hZ ⊢
  have hS : va_S A s.heap s.heap [] := va_S.rf
  have hR := hR0
  have hP : va_P D vwCl [(out, .inl (cO, 1, .inr (.inl fo))), (ce, .inl (cG, 121, .inl fc))] s.heap := hP
  have hl := lv_entry ([.ref xo, .long (lN a), .long (lN b), .ref out]) (n := 7) (Nat.le_of_ble_eq_true rfl)
  rw [lg_entry_eq]
  generalize (lg_sl ([.ref xo, .long (lN a), .long (lN b), .ref out]) ++ List.replicate (7 - (lg_sl ([.ref xo, .long (lN a), .long (lN b), .ref out])).length) Slot.unset).toArray = ls at hl ⊢
  have hl : lv_has ls 7 [(0, .ref xo), (1, .long (lN a)), (3, .long (lN b)), (5, .ref out)] := hl
  refine lv_aload hx hb dL_price_0 (lv_at hl 3 rfl) ?_
  refine lv_iconst (v := nI 0) hx hb dL_price_2 (by decide) ?_
  refine lv_aload_n hx hb dL_price_3 rfl (lv_at hl 0 rfl) ?_
  refine lv_lload_n hx hb dL_price_4 rfl (lv_at hl 1 rfl) ?_
  refine lv_lload_n hx hb dL_price_5 rfl (lv_at hl 2 rfl) ?_
  have hF := va_free (wc := [(ce, .inl (cG, 121, .inl fc))]) hD hS hA [1] rfl
  refine vx_calli (vx_runV (As := [.long (lN a), .long (lN b)]) (rest := [.int (nI 0), .ref out]) ⟨hx, hb, hml, hown, hts⟩ (c_X9_price (l := l) (D := D) (xo := xo) (gg := gg) (gr := gr) (ce := ce) (tr := tr) (sh := sh) (ar := ar) (ti := ti) (n1 := n1) (l1 := l1) (s2 := s2) (a2 := a2) (s3 := s3) (a3 := a3) (n2 := n2) (l2 := l2) (cG := cG) (fc := fc) (a := a) (b := b) (sz := s.heap.size) (hnd := (q_nds hnd [1, 2, 3, 4] rfl rfl)) (hst := hst) (ha := ha) (hb9 := hb9)) (cwV 2 hts gL_price_X9_price rfl rfl rfl (by decide +kernel) ⟨Nat.le_of_ble_eq_true rfl, Nat.le_of_ble_eq_true rfl⟩) ⟨qWx_blind, (va_recv hK hR (ci := 8) (q0 := 0) rfl rfl), (qWx_of (hR.sub (ws' := [(xo, .inr (8, [.ref gg, .ref tr, .ref ti, .ref s2, .ref s3, .ref n2])), (gg, .inr (1, [.ref gr])), (gr, .inr (2, [.ref ce]))]) [0, 1, 2] rfl) (hP.sub (ws' := [(ce, .inl (cG, 121, .inl fc))]) [1] rfl) (hK.sub (tys' := [(cG, .int)]) [1] rfl) hNw (qZ_at hZ hS (fun q h => hF q h)) hXt)⟩ rfl rfl hl.1 rfl (lv_room (Nat.le_of_ble_eq_true rfl)) dL_price_6 ⟨Nat.le_of_ble_eq_true rfl, Nat.le_of_ble_eq_true rfl⟩) hS (fun q _ h => hF q h) hF (fun q _ h => hF q h) (fun E9 ce9 q9 u9 t9 H9 locs9 ht9 hvm9 hpx9 hBX9 hz9 hk9 hS9 hc9 hv9 hcl9 => ?_) (fun r_1 u_5 t_4 H_2 locs_3 ht hvm hr_1 hB hz1 hk1 hS => ?_)
  · skip
    obtain ⟨hE9, hW9⟩ := hBX9
    replace hW9 : va_P D vwCl [(ce, .inl (cG, 121, .inl fc))] H9 := by rw [← ht9]; exact hW9
    obtain ⟨hP, hD⟩ := q_join (wc := [(ce, .inl (cG, 121, .inl fc))]) (w1 := [(ce, .inl (cG, 121, .inl fc))]) (ws' := [(out, .inl (cO, 1, .inr (.inl fo))), (ce, .inl (cG, 121, .inl fc))]) [1] hP hD rfl rfl hk9 hW9 rfl
    have hS := hS9
    have hR := q_ro hR0 hna hS
    obtain ⟨rfl, hC9⟩ := hE9
    refine vx_catch (own := RL) (name := q_IA) (E := q_IA) (ce := ce9) (q := q9) hown [] ⟨0, 11, 14, 13⟩ [] (by rw [hta]; rfl) (fun z9 h9 => absurd h9 List.not_mem_nil) rfl (by decide) (hts (.classLink RL 13 "java/lang/IllegalArgumentException") (List.mem_of_getElem? (i := 1) rfl)) (va_Nw.use rfl (hXt.2.1 (q_IA, q_IA) (by decide))) hc9 hv9 hcl9 ?_
    refine W.eq (g2 := F0 mi9 14 ls [.ref q9]) rfl ?_
    refine lv_astore (lv' := [(6, .ref q9), (0, .ref xo), (1, .long (lN a)), (3, .long (lN b)), (5, .ref out)]) hx hb dL_price_14 hl (by decide) rfl (fun ls hl => ?_)
    refine lv_iconst (v := nI 1) hx hb dL_price_16 (by decide) ?_
    refine W.widen (k := 2) (n := 12) (Nat.le_of_ble_eq_true rfl) (Nat.le_of_ble_eq_true rfl) ?_
    exact W.iret (v := nI 1) hx hb hr (fun t9 ht hW => ⟨⟨nI 1, (fc, fo), rfl, (Or.inr (⟨rfl, hC9⟩)), by show va_P D vwCl _ t9.heap; rw [ht]; exact hP⟩, hS.F ht⟩) hS.2.2 dL_price_17
  skip
  obtain ⟨fc2_6, rfl⟩ : ∃ z, z = u_5 := ⟨_, rfl⟩
  replace hB : va_P D vwCl [(ce, .inl (cG, 121, .inl fc2_6))] H_2 := by rw [← ht]; exact hB
  obtain ⟨hP, hD⟩ := q_join (wc := [(ce, .inl (cG, 121, .inl fc))]) (w1 := [(ce, .inl (cG, 121, .inl fc2_6))]) (ws' := [(out, .inl (cO, 1, .inr (.inl fo))), (ce, .inl (cG, 121, .inl fc2_6))]) [1] hP hD rfl rfl hk1 hB rfl
  have hR := q_ro hR0 hna hS
  obtain ⟨rfl, hF8⟩ := hr_1
  refine lv_i2l hx hb dL_price_9 rfl ?_
  refine va_last (D := D) hx hb hK hP hD hS 0 0 rfl rfl (vp_in_nI (n := 0) (N := 1) (by omega) (by decide)) dL_price_10 (fun H_7 locs_8 hP hD hS => ?_)
  rw [nI_clamp (n := 0) (by omega)] at hP hD
  have hP : va_P D vwCl [(out, .inl (cO, 1, .inr (.inl (vp_updL fo 0 ((nI (pr (ltz a) (ltz b) (wl a) (wl b))).toInt64))))), (ce, .inl (cG, 121, .inl fc2_6))] H_7 := hP
  have hD : va_D A [(out, .inl (cO, 1, .inr (.inl (vp_updL fo 0 ((nI (pr (ltz a) (ltz b) (wl a) (wl b))).toInt64))))), (ce, .inl (cG, 121, .inl fc2_6))] := hD
  have hR := q_ro hR0 hna hS
  refine lv_goto (tgt := 18) hx hb dL_price_11 (by decide) ?_
  refine lv_iconst (v := nI 0) hx hb dL_price_18 (by decide) ?_
  refine W.widen (k := 2) (n := 12) (Nat.le_of_ble_eq_true rfl) (Nat.le_of_ble_eq_true rfl) ?_
  exact W.iret (v := nI 0) hx hb hr (fun t9 ht hW => ⟨⟨nI 0, (fc2_6, vp_updL fo 0 ((nI (pr (ltz a) (ltz b) (wl a) (wl b))).toInt64)), rfl, (Or.inl ⟨rfl, ⟨hF8, rfl⟩⟩), by show va_P D vwCl _ t9.heap; rw [ht]; exact hP⟩, hS.F ht⟩) hS.2.2 dL_price_19

set_option maxHeartbeats 4000000 in
set_option maxRecDepth 100000 in
/-- law: candidates -/
theorem c_L_candidates (l : Launch) (D : va_G) (sz : Nat) (xo : Nat) (gg : Nat) (gr : Nat) (ce : Nat) (tr : Nat) (sh : Nat) (ar : Nat) (ti : Nat) (n1 : Nat) (l1 : Nat) (s2 : Nat) (a2 : Nat) (s3 : Nat) (a3 : Nat) (n2 : Nat) (l2 : Nat) (cS2 : ClassId) (fk : Nat → Option Nat) (m : Nat) (ki : Nat → Nat) (ea : Nat → Nat) (wa : Nat → Nat) (pf : Nat → Option Nat) (cn : Nat → Nat) (dp : Nat → Nat) (oc : Nat → Nat) (ic : Nat → Int32) (lf : Nat → Int32) (pt : Nat → Int32) (wd : Nat → Nat) (n : Nat) (cG : ClassId) (fc : Nat → Int32) (a : Nat) (x9 : Int32) (out : Nat) (cO : ClassId) (fo : Nat → Int64) (hst : l.stackTraces = false) (hnd : ([out, ce] ++ ([xo, gg, gr, s2, a2] ++ (rg ea n ++ rg wa n))).Nodup) (ha : a < 2 ^ 64) (hm : m ≤ 40) (hf : ∀ j, j < m → fk j = some (ea (ki j))) (hki : ∀ j, j < m → ki j < n) (hg : ∀ k, k < n → gw (wd k)) : Met l yL_candidates wsL_candidates { frames := 8, cells := 2, slots := 12, locals := 141 } (va_Pc [.ref xo, .long (lN a), .int x9, .ref out] (qWx D sz ([(xo, .inr (8, [.ref gg, .ref tr, .ref ti, .ref s2, .ref s3, .ref n2])), (gg, .inr (1, [.ref gr])), (gr, .inr (2, [.ref ce])), (s2, .inr (4, [.ref a2, .int (nI m)])), (a2, .inl (cS2, 40, .inr (.inr (.inr (.inr fk)))))] ++ (EW ea wa pf cn dp oc ic lf pt n ++ WW wa wd n)) [(out, .inl (cO, 1, .inr (.inl fo))), (ce, .inl (cG, 121, .inl fc))] [(cO, .long), (cG, .int), (cS2, .object "FuzzyFens$Entry")])) (va_Qi (fun (rv : Int32) (uv : (Nat → Int32) × (Nat → Int64)) => ((rv = nI 0 ∧ (gw a ∧ 0 ≤ x9 ∧ x9 ≤ nI 2) ∧ uv.2 0 = (nI (cnt (fun j => decide (cdk wd a (kz x9) (ki j))) m)).toInt64) ∨ (rv = nI 1 ∧ ¬ (gw a ∧ 0 ≤ x9 ∧ x9 ≤ nI 2)))) (fun (uv : (Nat → Int32) × (Nat → Int64)) (tv : State) => va_P D vwCl [(out, .inl (cO, 1, .inr (.inl uv.2))), (ce, .inl (cG, 121, .inl uv.1))] tv.heap) (va_A [(out, .inl (cO, 1, .inr (.inl fo))), (ce, .inl (cG, 121, .inl fc))] sz)) 2 12 (va_A [(out, .inl (cO, 1, .inr (.inl fo))), (ce, .inl (cG, 121, .inl fc))] sz) := by
  refine va_MetW (cc := cL_candidates) (maxL := 6) (ret := (some .int)) (hh := [(0, 11, 14, 13)]) (by decide) rfl ?_
  intro pM eM s mi9 argsM belowM methM cM sM B hml hv
  obtain ⟨rfl, hsz, hR0, hP, hK, hNw, hZ, hXt⟩ := hv
  have hx := B.exec
  have hb := B.bytes
  have hr := B.returns
  have hts := atoms_spec (ws := wsL_candidates) B.pre
  have hta : cM.exceptionTable.toList = tableOf [(0, 11, 14, 13)] := vx_table (x := yL_candidates) B (hts (.codeWith yL_candidates cL_candidates 6 (some .int) [(0, 11, 14, 13)]) (List.mem_of_getElem? (i := 0) rfl))
  have hown : s.vm.findClass RL = some mi9.cls := findClass_of_methodNamed B.named
  have hlocks := B.notSynchronized
  subst hsz
  have hna := q_na (RW := [(out, .inl (cO, 1, .inr (.inl fo))), (ce, .inl (cG, 121, .inl fc))]) (RO := [(xo, .inr (8, [.ref gg, .ref tr, .ref ti, .ref s2, .ref s3, .ref n2])), (gg, .inr (1, [.ref gr])), (gr, .inr (2, [.ref ce])), (s2, .inr (4, [.ref a2, .int (nI m)])), (a2, .inl (cS2, 40, .inr (.inr (.inr (.inr fk)))))] ++ (EW ea wa pf cn dp oc ic lf pt n ++ WW wa wd n)) hnd rfl (by rw [List.map_append, List.map_append, EW_fst, WW_fst]; rfl) hR0
  have hD := q_D (RW := [(out, .inl (cO, 1, .inr (.inl fo))), (ce, .inl (cG, 121, .inl fc))]) (sz := s.heap.size) hnd rfl
  have hnR : (([(xo, .inr (8, [.ref gg, .ref tr, .ref ti, .ref s2, .ref s3, .ref n2])), (gg, .inr (1, [.ref gr])), (gr, .inr (2, [.ref ce])), (s2, .inr (4, [.ref a2, .int (nI m)])), (a2, .inl (cS2, 40, .inr (.inr (.inr (.inr fk)))))] ++ (EW ea wa pf cn dp oc ic lf pt n ++ WW wa wd n) : va_W).map (·.1)).Nodup := by rw [show ([(xo, .inr (8, [.ref gg, .ref tr, .ref ti, .ref s2, .ref s3, .ref n2])), (gg, .inr (1, [.ref gr])), (gr, .inr (2, [.ref ce])), (s2, .inr (4, [.ref a2, .int (nI m)])), (a2, .inl (cS2, 40, .inr (.inr (.inr (.inr fk)))))] ++ (EW ea wa pf cn dp oc ic lf pt n ++ WW wa wd n) : va_W).map (·.1) = ([xo, gg, gr, s2, a2] ++ (rg ea n ++ rg wa n)) from (by rw [List.map_append, List.map_append, EW_fst, WW_fst]; rfl)]; exact (List.nodup_append.mp hnd).2.1
  have hA : ∀ q : Nat, s.heap.size ≤ q → va_A [(out, .inl (cO, 1, .inr (.inl fo))), (ce, .inl (cG, 121, .inl fc))] s.heap.size q := fun q h => Or.inr h
  generalize hAe : va_A [(out, .inl (cO, 1, .inr (.inl fo))), (ce, .inl (cG, 121, .inl fc))] s.heap.size = A at hna hD hA hZ ⊢
  have hS : va_S A s.heap s.heap [] := va_S.rf
  have hR := hR0
  have hP : va_P D vwCl [(out, .inl (cO, 1, .inr (.inl fo))), (ce, .inl (cG, 121, .inl fc))] s.heap := hP
  have hl := lv_entry ([.ref xo, .long (lN a), .int x9, .ref out]) (n := 6) (Nat.le_of_ble_eq_true rfl)
  rw [lg_entry_eq]
  generalize (lg_sl ([.ref xo, .long (lN a), .int x9, .ref out]) ++ List.replicate (6 - (lg_sl ([.ref xo, .long (lN a), .int x9, .ref out])).length) Slot.unset).toArray = ls at hl ⊢
  have hl : lv_has ls 6 [(0, .ref xo), (1, .long (lN a)), (3, .int x9), (4, .ref out)] := hl
  refine lv_aload hx hb dL_candidates_0 (lv_at hl 3 rfl) ?_
  refine lv_iconst (v := nI 0) hx hb dL_candidates_2 (by decide) ?_
  refine lv_aload_n hx hb dL_candidates_3 rfl (lv_at hl 0 rfl) ?_
  refine lv_lload_n hx hb dL_candidates_4 rfl (lv_at hl 1 rfl) ?_
  refine lv_iload_n hx hb dL_candidates_5 rfl (lv_at hl 2 rfl) ?_
  have hF := va_free (wc := [(ce, .inl (cG, 121, .inl fc))]) hD hS hA [1] rfl
  refine vx_calli (vx_runV (As := [.long (lN a), .int x9]) (rest := [.int (nI 0), .ref out]) ⟨hx, hb, hml, hown, hts⟩ (c_X9_candidates (l := l) (D := D) (xo := xo) (gg := gg) (gr := gr) (ce := ce) (tr := tr) (sh := sh) (ar := ar) (ti := ti) (n1 := n1) (l1 := l1) (s2 := s2) (a2 := a2) (s3 := s3) (a3 := a3) (n2 := n2) (l2 := l2) (cS2 := cS2) (fk := fk) (m := m) (ki := ki) (ea := ea) (wa := wa) (pf := pf) (cn := cn) (dp := dp) (oc := oc) (ic := ic) (lf := lf) (pt := pt) (wd := wd) (n := n) (cG := cG) (fc := fc) (a := a) (x9 := x9) (sz := s.heap.size) (hnd := (q_ndt hnd [1, 2, 3, 4, 5, 6] rfl rfl)) (hst := hst) (ha := ha) (hm := hm) (hf := hf) (hki := hki) (hg := hg)) (cwV 2 hts gL_candidates_X9_candidates rfl rfl rfl (by decide +kernel) ⟨Nat.le_of_ble_eq_true rfl, Nat.le_of_ble_eq_true rfl⟩) ⟨qWx_blind, (va_recv hK hR (ci := 8) (q0 := 0) rfl rfl), (qWx_of (va_P.app (hR.sub (ws' := [(xo, .inr (8, [.ref gg, .ref tr, .ref ti, .ref s2, .ref s3, .ref n2])), (gg, .inr (1, [.ref gr])), (gr, .inr (2, [.ref ce])), (s2, .inr (4, [.ref a2, .int (nI m)])), (a2, .inl (cS2, 40, .inr (.inr (.inr (.inr fk)))))]) [0, 1, 2, 3, 4] rfl) (q_right hR)) (hP.sub (ws' := [(ce, .inl (cG, 121, .inl fc))]) [1] rfl) (hK.sub (tys' := [(cG, .int), (cS2, .object "FuzzyFens$Entry")]) [1, 2] rfl) hNw (qZ_at hZ hS (fun q h => hF q h)) hXt)⟩ rfl rfl hl.1 rfl (lv_room (Nat.le_of_ble_eq_true rfl)) dL_candidates_6 ⟨Nat.le_of_ble_eq_true rfl, Nat.le_of_ble_eq_true rfl⟩) hS (fun q _ h => hF q h) hF (fun q _ h => hF q h) (fun E9 ce9 q9 u9 t9 H9 locs9 ht9 hvm9 hpx9 hBX9 hz9 hk9 hS9 hc9 hv9 hcl9 => ?_) (fun r_1 u_5 t_4 H_2 locs_3 ht hvm hr_1 hB hz1 hk1 hS => ?_)
  · skip
    obtain ⟨hE9, hW9⟩ := hBX9
    replace hW9 : va_P D vwCl [(ce, .inl (cG, 121, .inl fc))] H9 := by rw [← ht9]; exact hW9
    obtain ⟨hP, hD⟩ := q_join (wc := [(ce, .inl (cG, 121, .inl fc))]) (w1 := [(ce, .inl (cG, 121, .inl fc))]) (ws' := [(out, .inl (cO, 1, .inr (.inl fo))), (ce, .inl (cG, 121, .inl fc))]) [1] hP hD rfl rfl hk9 hW9 rfl
    have hS := hS9
    have hR := q_ro hR0 hna hS
    obtain ⟨rfl, hC9⟩ := hE9
    refine vx_catch (own := RL) (name := q_IA) (E := q_IA) (ce := ce9) (q := q9) hown [] ⟨0, 11, 14, 13⟩ [] (by rw [hta]; rfl) (fun z9 h9 => absurd h9 List.not_mem_nil) rfl (by decide) (hts (.classLink RL 13 "java/lang/IllegalArgumentException") (List.mem_of_getElem? (i := 1) rfl)) (va_Nw.use rfl (hXt.2.1 (q_IA, q_IA) (by decide))) hc9 hv9 hcl9 ?_
    refine W.eq (g2 := F0 mi9 14 ls [.ref q9]) rfl ?_
    refine lv_astore (lv' := [(5, .ref q9), (0, .ref xo), (1, .long (lN a)), (3, .int x9), (4, .ref out)]) hx hb dL_candidates_14 hl (by decide) rfl (fun ls hl => ?_)
    refine lv_iconst (v := nI 1) hx hb dL_candidates_16 (by decide) ?_
    refine W.widen (k := 2) (n := 12) (Nat.le_of_ble_eq_true rfl) (Nat.le_of_ble_eq_true rfl) ?_
    exact W.iret (v := nI 1) hx hb hr (fun t9 ht hW => ⟨⟨nI 1, (fc, fo), rfl, (Or.inr (⟨rfl, hC9⟩)), by show va_P D vwCl _ t9.heap; rw [ht]; exact hP⟩, hS.F ht⟩) hS.2.2 dL_candidates_17
  skip
  obtain ⟨fc2_6, rfl⟩ : ∃ z, z = u_5 := ⟨_, rfl⟩
  replace hB : va_P D vwCl [(ce, .inl (cG, 121, .inl fc2_6))] H_2 := by rw [← ht]; exact hB
  obtain ⟨hP, hD⟩ := q_join (wc := [(ce, .inl (cG, 121, .inl fc))]) (w1 := [(ce, .inl (cG, 121, .inl fc2_6))]) (ws' := [(out, .inl (cO, 1, .inr (.inl fo))), (ce, .inl (cG, 121, .inl fc2_6))]) [1] hP hD rfl rfl hk1 hB rfl
  have hR := q_ro hR0 hna hS
  obtain ⟨rfl, hF8⟩ := hr_1
  refine lv_i2l hx hb dL_candidates_9 rfl ?_
  refine va_last (D := D) hx hb hK hP hD hS 0 0 rfl rfl (vp_in_nI (n := 0) (N := 1) (by omega) (by decide)) dL_candidates_10 (fun H_7 locs_8 hP hD hS => ?_)
  rw [nI_clamp (n := 0) (by omega)] at hP hD
  have hP : va_P D vwCl [(out, .inl (cO, 1, .inr (.inl (vp_updL fo 0 ((nI (cnt (fun j => decide (cdk wd a (kz x9) (ki j))) m)).toInt64))))), (ce, .inl (cG, 121, .inl fc2_6))] H_7 := hP
  have hD : va_D A [(out, .inl (cO, 1, .inr (.inl (vp_updL fo 0 ((nI (cnt (fun j => decide (cdk wd a (kz x9) (ki j))) m)).toInt64))))), (ce, .inl (cG, 121, .inl fc2_6))] := hD
  have hR := q_ro hR0 hna hS
  refine lv_goto (tgt := 18) hx hb dL_candidates_11 (by decide) ?_
  refine lv_iconst (v := nI 0) hx hb dL_candidates_18 (by decide) ?_
  refine W.widen (k := 2) (n := 12) (Nat.le_of_ble_eq_true rfl) (Nat.le_of_ble_eq_true rfl) ?_
  exact W.iret (v := nI 0) hx hb hr (fun t9 ht hW => ⟨⟨nI 0, (fc2_6, vp_updL fo 0 ((nI (cnt (fun j => decide (cdk wd a (kz x9) (ki j))) m)).toInt64)), rfl, (Or.inl ⟨rfl, ⟨hF8, rfl⟩⟩), by show va_P D vwCl _ t9.heap; rw [ht]; exact hP⟩, hS.F ht⟩) hS.2.2 dL_candidates_19

set_option maxHeartbeats 4000000 in
set_option maxRecDepth 100000 in
/-- law: falseCandidates -/
theorem c_L_falseCandidates (l : Launch) (D : va_G) (sz : Nat) (xo : Nat) (gg : Nat) (gr : Nat) (ce : Nat) (tr : Nat) (sh : Nat) (ar : Nat) (ti : Nat) (n1 : Nat) (l1 : Nat) (s2 : Nat) (a2 : Nat) (s3 : Nat) (a3 : Nat) (n2 : Nat) (l2 : Nat) (cS2 : ClassId) (fk : Nat → Option Nat) (m : Nat) (ki : Nat → Nat) (ea : Nat → Nat) (wa : Nat → Nat) (pf : Nat → Option Nat) (cn : Nat → Nat) (dp : Nat → Nat) (oc : Nat → Nat) (ic : Nat → Int32) (lf : Nat → Int32) (pt : Nat → Int32) (wd : Nat → Nat) (n : Nat) (cG : ClassId) (fc : Nat → Int32) (a : Nat) (x9 : Int32) (out : Nat) (cO : ClassId) (fo : Nat → Int64) (hst : l.stackTraces = false) (hnd : ([out, ce] ++ ([xo, gg, gr, s2, a2] ++ (rg ea n ++ rg wa n))).Nodup) (ha : a < 2 ^ 64) (hm : m ≤ 40) (hf : ∀ j, j < m → fk j = some (ea (ki j))) (hki : ∀ j, j < m → ki j < n) (hg : ∀ k, k < n → gw (wd k)) : Met l yL_falseCandidates wsL_falseCandidates { frames := 8, cells := 2, slots := 12, locals := 144 } (va_Pc [.ref xo, .long (lN a), .int x9, .ref out] (qWx D sz ([(xo, .inr (8, [.ref gg, .ref tr, .ref ti, .ref s2, .ref s3, .ref n2])), (gg, .inr (1, [.ref gr])), (gr, .inr (2, [.ref ce])), (s2, .inr (4, [.ref a2, .int (nI m)])), (a2, .inl (cS2, 40, .inr (.inr (.inr (.inr fk)))))] ++ (EW ea wa pf cn dp oc ic lf pt n ++ WW wa wd n)) [(out, .inl (cO, 1, .inr (.inl fo))), (ce, .inl (cG, 121, .inl fc))] [(cO, .long), (cG, .int), (cS2, .object "FuzzyFens$Entry")])) (va_Qi (fun (rv : Int32) (uv : (Nat → Int32) × (Nat → Int64)) => ((rv = nI 0 ∧ (gw a ∧ 0 ≤ x9 ∧ x9 ≤ nI 2) ∧ uv.2 0 = (nI (cnt (fun j => decide (cdk wd a (kz x9) (ki j) ∧ ¬ dst wd a (ki j) ≤ kz x9)) m)).toInt64) ∨ (rv = nI 1 ∧ ¬ (gw a ∧ 0 ≤ x9 ∧ x9 ≤ nI 2)))) (fun (uv : (Nat → Int32) × (Nat → Int64)) (tv : State) => va_P D vwCl [(out, .inl (cO, 1, .inr (.inl uv.2))), (ce, .inl (cG, 121, .inl uv.1))] tv.heap) (va_A [(out, .inl (cO, 1, .inr (.inl fo))), (ce, .inl (cG, 121, .inl fc))] sz)) 2 12 (va_A [(out, .inl (cO, 1, .inr (.inl fo))), (ce, .inl (cG, 121, .inl fc))] sz) := by
  refine va_MetW (cc := cL_falseCandidates) (maxL := 6) (ret := (some .int)) (hh := [(0, 11, 14, 13)]) (by decide) rfl ?_
  intro pM eM s mi9 argsM belowM methM cM sM B hml hv
  obtain ⟨rfl, hsz, hR0, hP, hK, hNw, hZ, hXt⟩ := hv
  have hx := B.exec
  have hb := B.bytes
  have hr := B.returns
  have hts := atoms_spec (ws := wsL_falseCandidates) B.pre
  have hta : cM.exceptionTable.toList = tableOf [(0, 11, 14, 13)] := vx_table (x := yL_falseCandidates) B (hts (.codeWith yL_falseCandidates cL_falseCandidates 6 (some .int) [(0, 11, 14, 13)]) (List.mem_of_getElem? (i := 0) rfl))
  have hown : s.vm.findClass RL = some mi9.cls := findClass_of_methodNamed B.named
  have hlocks := B.notSynchronized
  subst hsz
  have hna := q_na (RW := [(out, .inl (cO, 1, .inr (.inl fo))), (ce, .inl (cG, 121, .inl fc))]) (RO := [(xo, .inr (8, [.ref gg, .ref tr, .ref ti, .ref s2, .ref s3, .ref n2])), (gg, .inr (1, [.ref gr])), (gr, .inr (2, [.ref ce])), (s2, .inr (4, [.ref a2, .int (nI m)])), (a2, .inl (cS2, 40, .inr (.inr (.inr (.inr fk)))))] ++ (EW ea wa pf cn dp oc ic lf pt n ++ WW wa wd n)) hnd rfl (by rw [List.map_append, List.map_append, EW_fst, WW_fst]; rfl) hR0
  have hD := q_D (RW := [(out, .inl (cO, 1, .inr (.inl fo))), (ce, .inl (cG, 121, .inl fc))]) (sz := s.heap.size) hnd rfl
  have hnR : (([(xo, .inr (8, [.ref gg, .ref tr, .ref ti, .ref s2, .ref s3, .ref n2])), (gg, .inr (1, [.ref gr])), (gr, .inr (2, [.ref ce])), (s2, .inr (4, [.ref a2, .int (nI m)])), (a2, .inl (cS2, 40, .inr (.inr (.inr (.inr fk)))))] ++ (EW ea wa pf cn dp oc ic lf pt n ++ WW wa wd n) : va_W).map (·.1)).Nodup := by rw [show ([(xo, .inr (8, [.ref gg, .ref tr, .ref ti, .ref s2, .ref s3, .ref n2])), (gg, .inr (1, [.ref gr])), (gr, .inr (2, [.ref ce])), (s2, .inr (4, [.ref a2, .int (nI m)])), (a2, .inl (cS2, 40, .inr (.inr (.inr (.inr fk)))))] ++ (EW ea wa pf cn dp oc ic lf pt n ++ WW wa wd n) : va_W).map (·.1) = ([xo, gg, gr, s2, a2] ++ (rg ea n ++ rg wa n)) from (by rw [List.map_append, List.map_append, EW_fst, WW_fst]; rfl)]; exact (List.nodup_append.mp hnd).2.1
  have hA : ∀ q : Nat, s.heap.size ≤ q → va_A [(out, .inl (cO, 1, .inr (.inl fo))), (ce, .inl (cG, 121, .inl fc))] s.heap.size q := fun q h => Or.inr h
  generalize hAe : va_A [(out, .inl (cO, 1, .inr (.inl fo))), (ce, .inl (cG, 121, .inl fc))] s.heap.size = A at hna hD hA hZ ⊢
  have hS : va_S A s.heap s.heap [] := va_S.rf
  have hR := hR0
  have hP : va_P D vwCl [(out, .inl (cO, 1, .inr (.inl fo))), (ce, .inl (cG, 121, .inl fc))] s.heap := hP
  have hl := lv_entry ([.ref xo, .long (lN a), .int x9, .ref out]) (n := 6) (Nat.le_of_ble_eq_true rfl)
  rw [lg_entry_eq]
  generalize (lg_sl ([.ref xo, .long (lN a), .int x9, .ref out]) ++ List.replicate (6 - (lg_sl ([.ref xo, .long (lN a), .int x9, .ref out])).length) Slot.unset).toArray = ls at hl ⊢
  have hl : lv_has ls 6 [(0, .ref xo), (1, .long (lN a)), (3, .int x9), (4, .ref out)] := hl
  refine lv_aload hx hb dL_falseCandidates_0 (lv_at hl 3 rfl) ?_
  refine lv_iconst (v := nI 0) hx hb dL_falseCandidates_2 (by decide) ?_
  refine lv_aload_n hx hb dL_falseCandidates_3 rfl (lv_at hl 0 rfl) ?_
  refine lv_lload_n hx hb dL_falseCandidates_4 rfl (lv_at hl 1 rfl) ?_
  refine lv_iload_n hx hb dL_falseCandidates_5 rfl (lv_at hl 2 rfl) ?_
  have hF := va_free (wc := [(ce, .inl (cG, 121, .inl fc))]) hD hS hA [1] rfl
  refine vx_calli (vx_runV (As := [.long (lN a), .int x9]) (rest := [.int (nI 0), .ref out]) ⟨hx, hb, hml, hown, hts⟩ (c_X9_falseCandidates (l := l) (D := D) (xo := xo) (gg := gg) (gr := gr) (ce := ce) (tr := tr) (sh := sh) (ar := ar) (ti := ti) (n1 := n1) (l1 := l1) (s2 := s2) (a2 := a2) (s3 := s3) (a3 := a3) (n2 := n2) (l2 := l2) (cS2 := cS2) (fk := fk) (m := m) (ki := ki) (ea := ea) (wa := wa) (pf := pf) (cn := cn) (dp := dp) (oc := oc) (ic := ic) (lf := lf) (pt := pt) (wd := wd) (n := n) (cG := cG) (fc := fc) (a := a) (x9 := x9) (sz := s.heap.size) (hnd := (q_ndt hnd [1, 2, 3, 4, 5, 6] rfl rfl)) (hst := hst) (ha := ha) (hm := hm) (hf := hf) (hki := hki) (hg := hg)) (cwV 2 hts gL_falseCandidates_X9_falseCandidates rfl rfl rfl (by decide +kernel) ⟨Nat.le_of_ble_eq_true rfl, Nat.le_of_ble_eq_true rfl⟩) ⟨qWx_blind, (va_recv hK hR (ci := 8) (q0 := 0) rfl rfl), (qWx_of (va_P.app (hR.sub (ws' := [(xo, .inr (8, [.ref gg, .ref tr, .ref ti, .ref s2, .ref s3, .ref n2])), (gg, .inr (1, [.ref gr])), (gr, .inr (2, [.ref ce])), (s2, .inr (4, [.ref a2, .int (nI m)])), (a2, .inl (cS2, 40, .inr (.inr (.inr (.inr fk)))))]) [0, 1, 2, 3, 4] rfl) (q_right hR)) (hP.sub (ws' := [(ce, .inl (cG, 121, .inl fc))]) [1] rfl) (hK.sub (tys' := [(cG, .int), (cS2, .object "FuzzyFens$Entry")]) [1, 2] rfl) hNw (qZ_at hZ hS (fun q h => hF q h)) hXt)⟩ rfl rfl hl.1 rfl (lv_room (Nat.le_of_ble_eq_true rfl)) dL_falseCandidates_6 ⟨Nat.le_of_ble_eq_true rfl, Nat.le_of_ble_eq_true rfl⟩) hS (fun q _ h => hF q h) hF (fun q _ h => hF q h) (fun E9 ce9 q9 u9 t9 H9 locs9 ht9 hvm9 hpx9 hBX9 hz9 hk9 hS9 hc9 hv9 hcl9 => ?_) (fun r_1 u_5 t_4 H_2 locs_3 ht hvm hr_1 hB hz1 hk1 hS => ?_)
  · skip
    obtain ⟨hE9, hW9⟩ := hBX9
    replace hW9 : va_P D vwCl [(ce, .inl (cG, 121, .inl fc))] H9 := by rw [← ht9]; exact hW9
    obtain ⟨hP, hD⟩ := q_join (wc := [(ce, .inl (cG, 121, .inl fc))]) (w1 := [(ce, .inl (cG, 121, .inl fc))]) (ws' := [(out, .inl (cO, 1, .inr (.inl fo))), (ce, .inl (cG, 121, .inl fc))]) [1] hP hD rfl rfl hk9 hW9 rfl
    have hS := hS9
    have hR := q_ro hR0 hna hS
    obtain ⟨rfl, hC9⟩ := hE9
    refine vx_catch (own := RL) (name := q_IA) (E := q_IA) (ce := ce9) (q := q9) hown [] ⟨0, 11, 14, 13⟩ [] (by rw [hta]; rfl) (fun z9 h9 => absurd h9 List.not_mem_nil) rfl (by decide) (hts (.classLink RL 13 "java/lang/IllegalArgumentException") (List.mem_of_getElem? (i := 1) rfl)) (va_Nw.use rfl (hXt.2.1 (q_IA, q_IA) (by decide))) hc9 hv9 hcl9 ?_
    refine W.eq (g2 := F0 mi9 14 ls [.ref q9]) rfl ?_
    refine lv_astore (lv' := [(5, .ref q9), (0, .ref xo), (1, .long (lN a)), (3, .int x9), (4, .ref out)]) hx hb dL_falseCandidates_14 hl (by decide) rfl (fun ls hl => ?_)
    refine lv_iconst (v := nI 1) hx hb dL_falseCandidates_16 (by decide) ?_
    refine W.widen (k := 2) (n := 12) (Nat.le_of_ble_eq_true rfl) (Nat.le_of_ble_eq_true rfl) ?_
    exact W.iret (v := nI 1) hx hb hr (fun t9 ht hW => ⟨⟨nI 1, (fc, fo), rfl, (Or.inr (⟨rfl, hC9⟩)), by show va_P D vwCl _ t9.heap; rw [ht]; exact hP⟩, hS.F ht⟩) hS.2.2 dL_falseCandidates_17
  skip
  obtain ⟨fc2_6, rfl⟩ : ∃ z, z = u_5 := ⟨_, rfl⟩
  replace hB : va_P D vwCl [(ce, .inl (cG, 121, .inl fc2_6))] H_2 := by rw [← ht]; exact hB
  obtain ⟨hP, hD⟩ := q_join (wc := [(ce, .inl (cG, 121, .inl fc))]) (w1 := [(ce, .inl (cG, 121, .inl fc2_6))]) (ws' := [(out, .inl (cO, 1, .inr (.inl fo))), (ce, .inl (cG, 121, .inl fc2_6))]) [1] hP hD rfl rfl hk1 hB rfl
  have hR := q_ro hR0 hna hS
  obtain ⟨rfl, hF8⟩ := hr_1
  refine lv_i2l hx hb dL_falseCandidates_9 rfl ?_
  refine va_last (D := D) hx hb hK hP hD hS 0 0 rfl rfl (vp_in_nI (n := 0) (N := 1) (by omega) (by decide)) dL_falseCandidates_10 (fun H_7 locs_8 hP hD hS => ?_)
  rw [nI_clamp (n := 0) (by omega)] at hP hD
  have hP : va_P D vwCl [(out, .inl (cO, 1, .inr (.inl (vp_updL fo 0 ((nI (cnt (fun j => decide (cdk wd a (kz x9) (ki j) ∧ ¬ dst wd a (ki j) ≤ kz x9)) m)).toInt64))))), (ce, .inl (cG, 121, .inl fc2_6))] H_7 := hP
  have hD : va_D A [(out, .inl (cO, 1, .inr (.inl (vp_updL fo 0 ((nI (cnt (fun j => decide (cdk wd a (kz x9) (ki j) ∧ ¬ dst wd a (ki j) ≤ kz x9)) m)).toInt64))))), (ce, .inl (cG, 121, .inl fc2_6))] := hD
  have hR := q_ro hR0 hna hS
  refine lv_goto (tgt := 18) hx hb dL_falseCandidates_11 (by decide) ?_
  refine lv_iconst (v := nI 0) hx hb dL_falseCandidates_18 (by decide) ?_
  refine W.widen (k := 2) (n := 12) (Nat.le_of_ble_eq_true rfl) (Nat.le_of_ble_eq_true rfl) ?_
  exact W.iret (v := nI 0) hx hb hr (fun t9 ht hW => ⟨⟨nI 0, (fc2_6, vp_updL fo 0 ((nI (cnt (fun j => decide (cdk wd a (kz x9) (ki j) ∧ ¬ dst wd a (ki j) ≤ kz x9)) m)).toInt64)), rfl, (Or.inl ⟨rfl, ⟨hF8, rfl⟩⟩), by show va_P D vwCl _ t9.heap; rw [ht]; exact hP⟩, hS.F ht⟩) hS.2.2 dL_falseCandidates_19

set_option maxHeartbeats 4000000 in
set_option maxRecDepth 100000 in
/-- law: nearest -/
theorem c_L_nearest (l : Launch) (D : va_G) (sz : Nat) (xo : Nat) (gg : Nat) (gr : Nat) (ce : Nat) (tr : Nat) (sh : Nat) (ar : Nat) (ti : Nat) (n1 : Nat) (l1 : Nat) (s2 : Nat) (a2 : Nat) (s3 : Nat) (a3 : Nat) (n2 : Nat) (l2 : Nat) (cS2 : ClassId) (fk : Nat → Option Nat) (m : Nat) (ki : Nat → Nat) (ea : Nat → Nat) (wa : Nat → Nat) (pf : Nat → Option Nat) (cn : Nat → Nat) (dp : Nat → Nat) (oc : Nat → Nat) (ic : Nat → Int32) (lf : Nat → Int32) (pt : Nat → Int32) (wd : Nat → Nat) (n : Nat) (cG : ClassId) (fc : Nat → Int32) (a : Nat) (out : Nat) (cO : ClassId) (fo : Nat → Int64) (hst : l.stackTraces = false) (hnd : ([out, ce] ++ ([xo, gg, gr, s2, a2] ++ (rg ea n ++ rg wa n))).Nodup) (ha : a < 2 ^ 64) (hm : m ≤ 40) (hf : ∀ j, j < m → fk j = some (ea (ki j))) (hki : ∀ j, j < m → ki j < n) (hg : ∀ k, k < n → gw (wd k)) : Met l yL_nearest wsL_nearest { frames := 8, cells := 1, slots := 6, locals := 130 } (va_Pc [.ref xo, .long (lN a), .ref out] (qWx D sz ([(xo, .inr (8, [.ref gg, .ref tr, .ref ti, .ref s2, .ref s3, .ref n2])), (gg, .inr (1, [.ref gr])), (gr, .inr (2, [.ref ce])), (s2, .inr (4, [.ref a2, .int (nI m)])), (a2, .inl (cS2, 40, .inr (.inr (.inr (.inr fk)))))] ++ (EW ea wa pf cn dp oc ic lf pt n ++ WW wa wd n)) [(out, .inl (cO, 1, .inr (.inl fo))), (ce, .inl (cG, 121, .inl fc))] [(cO, .long), (cG, .int), (cS2, .object "FuzzyFens$Entry")])) (va_Qi (fun (rv : Int32) (uv : (Nat → Int32) × (Nat → Int64)) => ((rv = nI 0 ∧ (gw a) ∧ uv.2 0 = (pin (nrk wd ki a m)).toInt64) ∨ (rv = nI 1 ∧ ¬ gw a))) (fun (uv : (Nat → Int32) × (Nat → Int64)) (tv : State) => va_P D vwCl [(out, .inl (cO, 1, .inr (.inl uv.2))), (ce, .inl (cG, 121, .inl uv.1))] tv.heap) (va_A [(out, .inl (cO, 1, .inr (.inl fo))), (ce, .inl (cG, 121, .inl fc))] sz)) 1 6 (va_A [(out, .inl (cO, 1, .inr (.inl fo))), (ce, .inl (cG, 121, .inl fc))] sz) := by
  refine va_MetW (cc := cL_nearest) (maxL := 5) (ret := (some .int)) (hh := [(0, 9, 12, 13)]) (by decide) rfl ?_
  intro pM eM s mi9 argsM belowM methM cM sM B hml hv
  obtain ⟨rfl, hsz, hR0, hP, hK, hNw, hZ, hXt⟩ := hv
  have hx := B.exec
  have hb := B.bytes
  have hr := B.returns
  have hts := atoms_spec (ws := wsL_nearest) B.pre
  have hta : cM.exceptionTable.toList = tableOf [(0, 9, 12, 13)] := vx_table (x := yL_nearest) B (hts (.codeWith yL_nearest cL_nearest 5 (some .int) [(0, 9, 12, 13)]) (List.mem_of_getElem? (i := 0) rfl))
  have hown : s.vm.findClass RL = some mi9.cls := findClass_of_methodNamed B.named
  have hlocks := B.notSynchronized
  subst hsz
  have hna := q_na (RW := [(out, .inl (cO, 1, .inr (.inl fo))), (ce, .inl (cG, 121, .inl fc))]) (RO := [(xo, .inr (8, [.ref gg, .ref tr, .ref ti, .ref s2, .ref s3, .ref n2])), (gg, .inr (1, [.ref gr])), (gr, .inr (2, [.ref ce])), (s2, .inr (4, [.ref a2, .int (nI m)])), (a2, .inl (cS2, 40, .inr (.inr (.inr (.inr fk)))))] ++ (EW ea wa pf cn dp oc ic lf pt n ++ WW wa wd n)) hnd rfl (by rw [List.map_append, List.map_append, EW_fst, WW_fst]; rfl) hR0
  have hD := q_D (RW := [(out, .inl (cO, 1, .inr (.inl fo))), (ce, .inl (cG, 121, .inl fc))]) (sz := s.heap.size) hnd rfl
  have hnR : (([(xo, .inr (8, [.ref gg, .ref tr, .ref ti, .ref s2, .ref s3, .ref n2])), (gg, .inr (1, [.ref gr])), (gr, .inr (2, [.ref ce])), (s2, .inr (4, [.ref a2, .int (nI m)])), (a2, .inl (cS2, 40, .inr (.inr (.inr (.inr fk)))))] ++ (EW ea wa pf cn dp oc ic lf pt n ++ WW wa wd n) : va_W).map (·.1)).Nodup := by rw [show ([(xo, .inr (8, [.ref gg, .ref tr, .ref ti, .ref s2, .ref s3, .ref n2])), (gg, .inr (1, [.ref gr])), (gr, .inr (2, [.ref ce])), (s2, .inr (4, [.ref a2, .int (nI m)])), (a2, .inl (cS2, 40, .inr (.inr (.inr (.inr fk)))))] ++ (EW ea wa pf cn dp oc ic lf pt n ++ WW wa wd n) : va_W).map (·.1) = ([xo, gg, gr, s2, a2] ++ (rg ea n ++ rg wa n)) from (by rw [List.map_append, List.map_append, EW_fst, WW_fst]; rfl)]; exact (List.nodup_append.mp hnd).2.1
  have hA : ∀ q : Nat, s.heap.size ≤ q → va_A [(out, .inl (cO, 1, .inr (.inl fo))), (ce, .inl (cG, 121, .inl fc))] s.heap.size q := fun q h => Or.inr h
  generalize hAe : va_A [(out, .inl (cO, 1, .inr (.inl fo))), (ce, .inl (cG, 121, .inl fc))] s.heap.size = A at hna hD hA hZ ⊢
  have hS : va_S A s.heap s.heap [] := va_S.rf
  have hR := hR0
  have hP : va_P D vwCl [(out, .inl (cO, 1, .inr (.inl fo))), (ce, .inl (cG, 121, .inl fc))] s.heap := hP
  have hl := lv_entry ([.ref xo, .long (lN a), .ref out]) (n := 5) (Nat.le_of_ble_eq_true rfl)
  rw [lg_entry_eq]
  generalize (lg_sl ([.ref xo, .long (lN a), .ref out]) ++ List.replicate (5 - (lg_sl ([.ref xo, .long (lN a), .ref out])).length) Slot.unset).toArray = ls at hl ⊢
  have hl : lv_has ls 5 [(0, .ref xo), (1, .long (lN a)), (3, .ref out)] := hl
  refine lv_aload_n hx hb dL_nearest_0 rfl (lv_at hl 2 rfl) ?_
  refine lv_iconst (v := nI 0) hx hb dL_nearest_1 (by decide) ?_
  refine lv_aload_n hx hb dL_nearest_2 rfl (lv_at hl 0 rfl) ?_
  refine lv_lload_n hx hb dL_nearest_3 rfl (lv_at hl 1 rfl) ?_
  have hF := va_free (wc := [(ce, .inl (cG, 121, .inl fc))]) hD hS hA [1] rfl
  refine vx_calli (vx_runV (As := [.long (lN a)]) (rest := [.int (nI 0), .ref out]) ⟨hx, hb, hml, hown, hts⟩ (c_X9_nearest (l := l) (D := D) (xo := xo) (gg := gg) (gr := gr) (ce := ce) (tr := tr) (sh := sh) (ar := ar) (ti := ti) (n1 := n1) (l1 := l1) (s2 := s2) (a2 := a2) (s3 := s3) (a3 := a3) (n2 := n2) (l2 := l2) (cS2 := cS2) (fk := fk) (m := m) (ki := ki) (ea := ea) (wa := wa) (pf := pf) (cn := cn) (dp := dp) (oc := oc) (ic := ic) (lf := lf) (pt := pt) (wd := wd) (n := n) (cG := cG) (fc := fc) (a := a) (sz := s.heap.size) (hnd := (q_ndt hnd [1, 2, 3, 4, 5, 6] rfl rfl)) (hst := hst) (ha := ha) (hm := hm) (hf := hf) (hki := hki) (hg := hg)) (cwV 1 hts gL_nearest_X9_nearest rfl rfl rfl (by decide +kernel) ⟨Nat.le_of_ble_eq_true rfl, Nat.le_of_ble_eq_true rfl⟩) ⟨qWx_blind, (va_recv hK hR (ci := 8) (q0 := 0) rfl rfl), (qWx_of (va_P.app (hR.sub (ws' := [(xo, .inr (8, [.ref gg, .ref tr, .ref ti, .ref s2, .ref s3, .ref n2])), (gg, .inr (1, [.ref gr])), (gr, .inr (2, [.ref ce])), (s2, .inr (4, [.ref a2, .int (nI m)])), (a2, .inl (cS2, 40, .inr (.inr (.inr (.inr fk)))))]) [0, 1, 2, 3, 4] rfl) (q_right hR)) (hP.sub (ws' := [(ce, .inl (cG, 121, .inl fc))]) [1] rfl) (hK.sub (tys' := [(cG, .int), (cS2, .object "FuzzyFens$Entry")]) [1, 2] rfl) hNw (qZ_at hZ hS (fun q h => hF q h)) hXt)⟩ rfl rfl hl.1 rfl (lv_room (Nat.le_of_ble_eq_true rfl)) dL_nearest_4 ⟨Nat.le_of_ble_eq_true rfl, Nat.le_of_ble_eq_true rfl⟩) hS (fun q _ h => hF q h) hF (fun q _ h => hF q h) (fun E9 ce9 q9 u9 t9 H9 locs9 ht9 hvm9 hpx9 hBX9 hz9 hk9 hS9 hc9 hv9 hcl9 => ?_) (fun r_1 u_5 t_4 H_2 locs_3 ht hvm hr_1 hB hz1 hk1 hS => ?_)
  · skip
    obtain ⟨hE9, hW9⟩ := hBX9
    replace hW9 : va_P D vwCl [(ce, .inl (cG, 121, .inl fc))] H9 := by rw [← ht9]; exact hW9
    obtain ⟨hP, hD⟩ := q_join (wc := [(ce, .inl (cG, 121, .inl fc))]) (w1 := [(ce, .inl (cG, 121, .inl fc))]) (ws' := [(out, .inl (cO, 1, .inr (.inl fo))), (ce, .inl (cG, 121, .inl fc))]) [1] hP hD rfl rfl hk9 hW9 rfl
    have hS := hS9
    have hR := q_ro hR0 hna hS
    obtain ⟨rfl, hC9⟩ := hE9
    refine vx_catch (own := RL) (name := q_IA) (E := q_IA) (ce := ce9) (q := q9) hown [] ⟨0, 9, 12, 13⟩ [] (by rw [hta]; rfl) (fun z9 h9 => absurd h9 List.not_mem_nil) rfl (by decide) (hts (.classLink RL 13 "java/lang/IllegalArgumentException") (List.mem_of_getElem? (i := 1) rfl)) (va_Nw.use rfl (hXt.2.1 (q_IA, q_IA) (by decide))) hc9 hv9 hcl9 ?_
    refine W.eq (g2 := F0 mi9 12 ls [.ref q9]) rfl ?_
    refine lv_astore (lv' := [(4, .ref q9), (0, .ref xo), (1, .long (lN a)), (3, .ref out)]) hx hb dL_nearest_12 hl (by decide) rfl (fun ls hl => ?_)
    refine lv_iconst (v := nI 1) hx hb dL_nearest_14 (by decide) ?_
    refine W.widen (k := 1) (n := 6) (Nat.le_of_ble_eq_true rfl) (Nat.le_of_ble_eq_true rfl) ?_
    exact W.iret (v := nI 1) hx hb hr (fun t9 ht hW => ⟨⟨nI 1, (fc, fo), rfl, (Or.inr (⟨rfl, hC9⟩)), by show va_P D vwCl _ t9.heap; rw [ht]; exact hP⟩, hS.F ht⟩) hS.2.2 dL_nearest_15
  skip
  obtain ⟨fc2_6, rfl⟩ : ∃ z, z = u_5 := ⟨_, rfl⟩
  replace hB : va_P D vwCl [(ce, .inl (cG, 121, .inl fc2_6))] H_2 := by rw [← ht]; exact hB
  obtain ⟨hP, hD⟩ := q_join (wc := [(ce, .inl (cG, 121, .inl fc))]) (w1 := [(ce, .inl (cG, 121, .inl fc2_6))]) (ws' := [(out, .inl (cO, 1, .inr (.inl fo))), (ce, .inl (cG, 121, .inl fc2_6))]) [1] hP hD rfl rfl hk1 hB rfl
  have hR := q_ro hR0 hna hS
  obtain ⟨rfl, hF8⟩ := hr_1
  refine lv_i2l hx hb dL_nearest_7 rfl ?_
  refine va_last (D := D) hx hb hK hP hD hS 0 0 rfl rfl (vp_in_nI (n := 0) (N := 1) (by omega) (by decide)) dL_nearest_8 (fun H_7 locs_8 hP hD hS => ?_)
  rw [nI_clamp (n := 0) (by omega)] at hP hD
  have hP : va_P D vwCl [(out, .inl (cO, 1, .inr (.inl (vp_updL fo 0 ((pin (nrk wd ki a m)).toInt64))))), (ce, .inl (cG, 121, .inl fc2_6))] H_7 := hP
  have hD : va_D A [(out, .inl (cO, 1, .inr (.inl (vp_updL fo 0 ((pin (nrk wd ki a m)).toInt64))))), (ce, .inl (cG, 121, .inl fc2_6))] := hD
  have hR := q_ro hR0 hna hS
  refine lv_goto (tgt := 16) hx hb dL_nearest_9 (by decide) ?_
  refine lv_iconst (v := nI 0) hx hb dL_nearest_16 (by decide) ?_
  refine W.widen (k := 1) (n := 6) (Nat.le_of_ble_eq_true rfl) (Nat.le_of_ble_eq_true rfl) ?_
  exact W.iret (v := nI 0) hx hb hr (fun t9 ht hW => ⟨⟨nI 0, (fc2_6, vp_updL fo 0 ((pin (nrk wd ki a m)).toInt64)), rfl, (Or.inl ⟨rfl, ⟨hF8, rfl⟩⟩), by show va_P D vwCl _ t9.heap; rw [ht]; exact hP⟩, hS.F ht⟩) hS.2.2 dL_nearest_17

set_option maxHeartbeats 4000000 in
set_option maxRecDepth 100000 in
/-- law: trieReached -/
theorem c_L_trieReached (l : Launch) (D : va_G) (sz : Nat) (xo : Nat) (gg : Nat) (gr : Nat) (ce : Nat) (tr : Nat) (sh : Nat) (ar : Nat) (ti : Nat) (n1 : Nat) (l1 : Nat) (s2 : Nat) (a2 : Nat) (s3 : Nat) (a3 : Nat) (n2 : Nat) (l2 : Nat) (cS2 : ClassId) (fk : Nat → Option Nat) (m : Nat) (ki : Nat → Nat) (ea : Nat → Nat) (wa : Nat → Nat) (pf : Nat → Option Nat) (cn : Nat → Nat) (dp : Nat → Nat) (oc : Nat → Nat) (ic : Nat → Int32) (lf : Nat → Int32) (pt : Nat → Int32) (wd : Nat → Nat) (n : Nat) (cG : ClassId) (fc : Nat → Int32) (cJ1 : ClassId) (fN : Nat → Int64) (z1 : Int32) (a : Nat) (x9 : Int32) (out : Nat) (cO : ClassId) (fo : Nat → Int64) (hst : l.stackTraces = false) (hnd : ([out, n1, l1, ce] ++ ([xo, ti, gg, gr, s2, a2] ++ (rg ea n ++ rg wa n))).Nodup) (ha : a < 2 ^ 64) (hm : m ≤ 40) (hf : ∀ j, j < m → fk j = some (ea (ki j))) (hki : ∀ j, j < m → ki j < n) (hg : ∀ k, k < n → gw (wd k)) : Met l yL_trieReached wsL_trieReached { frames := 8, cells := 2, slots := 12, locals := 171 } (va_Pc [.ref xo, .long (lN a), .int x9, .ref out] (qWx D sz ([(xo, .inr (8, [.ref gg, .ref tr, .ref ti, .ref s2, .ref s3, .ref n2])), (ti, .inr (6, [.ref n1])), (gg, .inr (1, [.ref gr])), (gr, .inr (2, [.ref ce])), (s2, .inr (4, [.ref a2, .int (nI m)])), (a2, .inl (cS2, 40, .inr (.inr (.inr (.inr fk)))))] ++ (EW ea wa pf cn dp oc ic lf pt n ++ WW wa wd n)) [(out, .inl (cO, 1, .inr (.inl fo))), (n1, .inr (3, [.ref l1, .int z1])), (l1, .inl (cJ1, 401, .inr (.inl fN))), (ce, .inl (cG, 121, .inl fc))] [(cO, .long), (cJ1, .long), (cG, .int), (cS2, .object "FuzzyFens$Entry")])) (va_Qi (fun (rv : Int32) (uv : (Int32) × (Nat → Int64) × (Nat → Int32) × (Nat → Int64)) => ((rv = nI 0 ∧ (gw a ∧ 0 ≤ x9 ∧ x9 ≤ nI 3) ∧ uv.2.2.2 0 = (nI (ren (kz x9) a wd ki m)).toInt64) ∨ (rv = nI 1 ∧ ¬ (gw a ∧ 0 ≤ x9 ∧ x9 ≤ nI 3)))) (fun (uv : (Int32) × (Nat → Int64) × (Nat → Int32) × (Nat → Int64)) (tv : State) => va_P D vwCl [(out, .inl (cO, 1, .inr (.inl uv.2.2.2))), (n1, .inr (3, [.ref l1, .int uv.1])), (l1, .inl (cJ1, 401, .inr (.inl uv.2.1))), (ce, .inl (cG, 121, .inl uv.2.2.1))] tv.heap) (va_A [(out, .inl (cO, 1, .inr (.inl fo))), (n1, .inr (3, [.ref l1, .int z1])), (l1, .inl (cJ1, 401, .inr (.inl fN))), (ce, .inl (cG, 121, .inl fc))] sz)) 2 12 (va_A [(out, .inl (cO, 1, .inr (.inl fo))), (n1, .inr (3, [.ref l1, .int z1])), (l1, .inl (cJ1, 401, .inr (.inl fN))), (ce, .inl (cG, 121, .inl fc))] sz) := by
  refine va_MetW (cc := cL_trieReached) (maxL := 6) (ret := (some .int)) (hh := [(0, 11, 14, 13)]) (by decide) rfl ?_
  intro pM eM s mi9 argsM belowM methM cM sM B hml hv
  obtain ⟨rfl, hsz, hR0, hP, hK, hNw, hZ, hXt⟩ := hv
  have hx := B.exec
  have hb := B.bytes
  have hr := B.returns
  have hts := atoms_spec (ws := wsL_trieReached) B.pre
  have hta : cM.exceptionTable.toList = tableOf [(0, 11, 14, 13)] := vx_table (x := yL_trieReached) B (hts (.codeWith yL_trieReached cL_trieReached 6 (some .int) [(0, 11, 14, 13)]) (List.mem_of_getElem? (i := 0) rfl))
  have hown : s.vm.findClass RL = some mi9.cls := findClass_of_methodNamed B.named
  have hlocks := B.notSynchronized
  subst hsz
  have hna := q_na (RW := [(out, .inl (cO, 1, .inr (.inl fo))), (n1, .inr (3, [.ref l1, .int z1])), (l1, .inl (cJ1, 401, .inr (.inl fN))), (ce, .inl (cG, 121, .inl fc))]) (RO := [(xo, .inr (8, [.ref gg, .ref tr, .ref ti, .ref s2, .ref s3, .ref n2])), (ti, .inr (6, [.ref n1])), (gg, .inr (1, [.ref gr])), (gr, .inr (2, [.ref ce])), (s2, .inr (4, [.ref a2, .int (nI m)])), (a2, .inl (cS2, 40, .inr (.inr (.inr (.inr fk)))))] ++ (EW ea wa pf cn dp oc ic lf pt n ++ WW wa wd n)) hnd rfl (by rw [List.map_append, List.map_append, EW_fst, WW_fst]; rfl) hR0
  have hD := q_D (RW := [(out, .inl (cO, 1, .inr (.inl fo))), (n1, .inr (3, [.ref l1, .int z1])), (l1, .inl (cJ1, 401, .inr (.inl fN))), (ce, .inl (cG, 121, .inl fc))]) (sz := s.heap.size) hnd rfl
  have hnR : (([(xo, .inr (8, [.ref gg, .ref tr, .ref ti, .ref s2, .ref s3, .ref n2])), (ti, .inr (6, [.ref n1])), (gg, .inr (1, [.ref gr])), (gr, .inr (2, [.ref ce])), (s2, .inr (4, [.ref a2, .int (nI m)])), (a2, .inl (cS2, 40, .inr (.inr (.inr (.inr fk)))))] ++ (EW ea wa pf cn dp oc ic lf pt n ++ WW wa wd n) : va_W).map (·.1)).Nodup := by rw [show ([(xo, .inr (8, [.ref gg, .ref tr, .ref ti, .ref s2, .ref s3, .ref n2])), (ti, .inr (6, [.ref n1])), (gg, .inr (1, [.ref gr])), (gr, .inr (2, [.ref ce])), (s2, .inr (4, [.ref a2, .int (nI m)])), (a2, .inl (cS2, 40, .inr (.inr (.inr (.inr fk)))))] ++ (EW ea wa pf cn dp oc ic lf pt n ++ WW wa wd n) : va_W).map (·.1) = ([xo, ti, gg, gr, s2, a2] ++ (rg ea n ++ rg wa n)) from (by rw [List.map_append, List.map_append, EW_fst, WW_fst]; rfl)]; exact (List.nodup_append.mp hnd).2.1
  have hA : ∀ q : Nat, s.heap.size ≤ q → va_A [(out, .inl (cO, 1, .inr (.inl fo))), (n1, .inr (3, [.ref l1, .int z1])), (l1, .inl (cJ1, 401, .inr (.inl fN))), (ce, .inl (cG, 121, .inl fc))] s.heap.size q := fun q h => Or.inr h
  generalize hAe : va_A [(out, .inl (cO, 1, .inr (.inl fo))), (n1, .inr (3, [.ref l1, .int z1])), (l1, .inl (cJ1, 401, .inr (.inl fN))), (ce, .inl (cG, 121, .inl fc))] s.heap.size = A at hna hD hA hZ ⊢
  have hS : va_S A s.heap s.heap [] := va_S.rf
  have hR := hR0
  have hP : va_P D vwCl [(out, .inl (cO, 1, .inr (.inl fo))), (n1, .inr (3, [.ref l1, .int z1])), (l1, .inl (cJ1, 401, .inr (.inl fN))), (ce, .inl (cG, 121, .inl fc))] s.heap := hP
  have hl := lv_entry ([.ref xo, .long (lN a), .int x9, .ref out]) (n := 6) (Nat.le_of_ble_eq_true rfl)
  rw [lg_entry_eq]
  generalize (lg_sl ([.ref xo, .long (lN a), .int x9, .ref out]) ++ List.replicate (6 - (lg_sl ([.ref xo, .long (lN a), .int x9, .ref out])).length) Slot.unset).toArray = ls at hl ⊢
  have hl : lv_has ls 6 [(0, .ref xo), (1, .long (lN a)), (3, .int x9), (4, .ref out)] := hl
  refine lv_aload hx hb dL_trieReached_0 (lv_at hl 3 rfl) ?_
  refine lv_iconst (v := nI 0) hx hb dL_trieReached_2 (by decide) ?_
  refine lv_aload_n hx hb dL_trieReached_3 rfl (lv_at hl 0 rfl) ?_
  refine lv_lload_n hx hb dL_trieReached_4 rfl (lv_at hl 1 rfl) ?_
  refine lv_iload_n hx hb dL_trieReached_5 rfl (lv_at hl 2 rfl) ?_
  have hF := va_free (wc := [(n1, .inr (3, [.ref l1, .int z1])), (l1, .inl (cJ1, 401, .inr (.inl fN))), (ce, .inl (cG, 121, .inl fc))]) hD hS hA [1, 2, 3] rfl
  refine vx_calli (vx_runV (As := [.long (lN a), .int x9]) (rest := [.int (nI 0), .ref out]) ⟨hx, hb, hml, hown, hts⟩ (c_X9_trieReached (l := l) (D := D) (xo := xo) (gg := gg) (gr := gr) (ce := ce) (tr := tr) (sh := sh) (ar := ar) (ti := ti) (n1 := n1) (l1 := l1) (s2 := s2) (a2 := a2) (s3 := s3) (a3 := a3) (n2 := n2) (l2 := l2) (cS2 := cS2) (fk := fk) (m := m) (ki := ki) (ea := ea) (wa := wa) (pf := pf) (cn := cn) (dp := dp) (oc := oc) (ic := ic) (lf := lf) (pt := pt) (wd := wd) (n := n) (cG := cG) (fc := fc) (cJ1 := cJ1) (fN := fN) (z1 := z1) (a := a) (x9 := x9) (sz := s.heap.size) (hnd := (q_ndt hnd [1, 2, 3, 4, 5, 6, 7, 8, 9] rfl rfl)) (hst := hst) (ha := ha) (hm := hm) (hf := hf) (hki := hki) (hg := hg)) (cwV 2 hts gL_trieReached_X9_trieReached rfl rfl rfl (by decide +kernel) ⟨Nat.le_of_ble_eq_true rfl, Nat.le_of_ble_eq_true rfl⟩) ⟨qWx_blind, (va_recv hK hR (ci := 8) (q0 := 0) rfl rfl), (qWx_of (va_P.app (hR.sub (ws' := [(xo, .inr (8, [.ref gg, .ref tr, .ref ti, .ref s2, .ref s3, .ref n2])), (ti, .inr (6, [.ref n1])), (gg, .inr (1, [.ref gr])), (gr, .inr (2, [.ref ce])), (s2, .inr (4, [.ref a2, .int (nI m)])), (a2, .inl (cS2, 40, .inr (.inr (.inr (.inr fk)))))]) [0, 1, 2, 3, 4, 5] rfl) (q_right hR)) (hP.sub (ws' := [(n1, .inr (3, [.ref l1, .int z1])), (l1, .inl (cJ1, 401, .inr (.inl fN))), (ce, .inl (cG, 121, .inl fc))]) [1, 2, 3] rfl) (hK.sub (tys' := [(cJ1, .long), (cG, .int), (cS2, .object "FuzzyFens$Entry")]) [1, 2, 3] rfl) hNw (qZ_at hZ hS (fun q h => hF q h)) hXt)⟩ rfl rfl hl.1 rfl (lv_room (Nat.le_of_ble_eq_true rfl)) dL_trieReached_6 ⟨Nat.le_of_ble_eq_true rfl, Nat.le_of_ble_eq_true rfl⟩) hS (fun q _ h => hF q h) hF (fun q _ h => hF q h) (fun E9 ce9 q9 u9 t9 H9 locs9 ht9 hvm9 hpx9 hBX9 hz9 hk9 hS9 hc9 hv9 hcl9 => ?_) (fun r_1 u_5 t_4 H_2 locs_3 ht hvm hr_1 hB hz1 hk1 hS => ?_)
  · skip
    obtain ⟨hE9, hW9⟩ := hBX9
    replace hW9 : va_P D vwCl [(n1, .inr (3, [.ref l1, .int z1])), (l1, .inl (cJ1, 401, .inr (.inl fN))), (ce, .inl (cG, 121, .inl fc))] H9 := by rw [← ht9]; exact hW9
    obtain ⟨hP, hD⟩ := q_join (wc := [(n1, .inr (3, [.ref l1, .int z1])), (l1, .inl (cJ1, 401, .inr (.inl fN))), (ce, .inl (cG, 121, .inl fc))]) (w1 := [(n1, .inr (3, [.ref l1, .int z1])), (l1, .inl (cJ1, 401, .inr (.inl fN))), (ce, .inl (cG, 121, .inl fc))]) (ws' := [(out, .inl (cO, 1, .inr (.inl fo))), (n1, .inr (3, [.ref l1, .int z1])), (l1, .inl (cJ1, 401, .inr (.inl fN))), (ce, .inl (cG, 121, .inl fc))]) [1, 2, 3] hP hD rfl rfl hk9 hW9 rfl
    have hS := hS9
    have hR := q_ro hR0 hna hS
    obtain ⟨rfl, hC9⟩ := hE9
    refine vx_catch (own := RL) (name := q_IA) (E := q_IA) (ce := ce9) (q := q9) hown [] ⟨0, 11, 14, 13⟩ [] (by rw [hta]; rfl) (fun z9 h9 => absurd h9 List.not_mem_nil) rfl (by decide) (hts (.classLink RL 13 "java/lang/IllegalArgumentException") (List.mem_of_getElem? (i := 1) rfl)) (va_Nw.use rfl (hXt.2.1 (q_IA, q_IA) (by decide))) hc9 hv9 hcl9 ?_
    refine W.eq (g2 := F0 mi9 14 ls [.ref q9]) rfl ?_
    refine lv_astore (lv' := [(5, .ref q9), (0, .ref xo), (1, .long (lN a)), (3, .int x9), (4, .ref out)]) hx hb dL_trieReached_14 hl (by decide) rfl (fun ls hl => ?_)
    refine lv_iconst (v := nI 1) hx hb dL_trieReached_16 (by decide) ?_
    refine W.widen (k := 2) (n := 12) (Nat.le_of_ble_eq_true rfl) (Nat.le_of_ble_eq_true rfl) ?_
    exact W.iret (v := nI 1) hx hb hr (fun t9 ht hW => ⟨⟨nI 1, (z1, fN, fc, fo), rfl, (Or.inr (⟨rfl, hC9⟩)), by show va_P D vwCl _ t9.heap; rw [ht]; exact hP⟩, hS.F ht⟩) hS.2.2 dL_trieReached_17
  skip
  obtain ⟨fN2_6, fc2_7⟩ := u_5
  dsimp only at hr_1 hB
  replace hB : va_P D vwCl [(n1, .inr (3, [.ref l1, .int (nI (List.length (rel (kz x9) a wd ki m)))])), (l1, .inl (cJ1, 401, .inr (.inl fN2_6))), (ce, .inl (cG, 121, .inl fc2_7))] H_2 := by rw [← ht]; exact hB
  obtain ⟨hP, hD⟩ := q_join (wc := [(n1, .inr (3, [.ref l1, .int z1])), (l1, .inl (cJ1, 401, .inr (.inl fN))), (ce, .inl (cG, 121, .inl fc))]) (w1 := [(n1, .inr (3, [.ref l1, .int (nI (List.length (rel (kz x9) a wd ki m)))])), (l1, .inl (cJ1, 401, .inr (.inl fN2_6))), (ce, .inl (cG, 121, .inl fc2_7))]) (ws' := [(out, .inl (cO, 1, .inr (.inl fo))), (n1, .inr (3, [.ref l1, .int (nI (List.length (rel (kz x9) a wd ki m)))])), (l1, .inl (cJ1, 401, .inr (.inl fN2_6))), (ce, .inl (cG, 121, .inl fc2_7))]) [1, 2, 3] hP hD rfl rfl hk1 hB rfl
  have hR := q_ro hR0 hna hS
  obtain ⟨rfl, hF8⟩ := hr_1
  refine lv_i2l hx hb dL_trieReached_9 rfl ?_
  refine va_last (D := D) hx hb hK hP hD hS 0 0 rfl rfl (vp_in_nI (n := 0) (N := 1) (by omega) (by decide)) dL_trieReached_10 (fun H_8 locs_9 hP hD hS => ?_)
  rw [nI_clamp (n := 0) (by omega)] at hP hD
  have hP : va_P D vwCl [(out, .inl (cO, 1, .inr (.inl (vp_updL fo 0 ((nI (ren (kz x9) a wd ki m)).toInt64))))), (n1, .inr (3, [.ref l1, .int (nI (List.length (rel (kz x9) a wd ki m)))])), (l1, .inl (cJ1, 401, .inr (.inl fN2_6))), (ce, .inl (cG, 121, .inl fc2_7))] H_8 := hP
  have hD : va_D A [(out, .inl (cO, 1, .inr (.inl (vp_updL fo 0 ((nI (ren (kz x9) a wd ki m)).toInt64))))), (n1, .inr (3, [.ref l1, .int (nI (List.length (rel (kz x9) a wd ki m)))])), (l1, .inl (cJ1, 401, .inr (.inl fN2_6))), (ce, .inl (cG, 121, .inl fc2_7))] := hD
  have hR := q_ro hR0 hna hS
  refine lv_goto (tgt := 18) hx hb dL_trieReached_11 (by decide) ?_
  refine lv_iconst (v := nI 0) hx hb dL_trieReached_18 (by decide) ?_
  refine W.widen (k := 2) (n := 12) (Nat.le_of_ble_eq_true rfl) (Nat.le_of_ble_eq_true rfl) ?_
  exact W.iret (v := nI 0) hx hb hr (fun t9 ht hW => ⟨⟨nI 0, (nI (List.length (rel (kz x9) a wd ki m)), fN2_6, fc2_7, vp_updL fo 0 ((nI (ren (kz x9) a wd ki m)).toInt64)), rfl, (Or.inl ⟨rfl, ⟨hF8, rfl⟩⟩), by show va_P D vwCl _ t9.heap; rw [ht]; exact hP⟩, hS.F ht⟩) hS.2.2 dL_trieReached_19

set_option maxHeartbeats 4000000 in
set_option maxRecDepth 100000 in
/-- law: rows -/
theorem c_L_rows (l : Launch) (D : va_G) (sz : Nat) (xo : Nat) (gg : Nat) (gr : Nat) (ce : Nat) (tr : Nat) (sh : Nat) (ar : Nat) (ti : Nat) (n1 : Nat) (l1 : Nat) (s2 : Nat) (a2 : Nat) (s3 : Nat) (a3 : Nat) (n2 : Nat) (l2 : Nat) (cS2 : ClassId) (fk : Nat → Option Nat) (m : Nat) (ki : Nat → Nat) (ea : Nat → Nat) (wa : Nat → Nat) (pf : Nat → Option Nat) (cn : Nat → Nat) (dp : Nat → Nat) (oc : Nat → Nat) (ic : Nat → Int32) (lf : Nat → Int32) (pt : Nat → Int32) (wd : Nat → Nat) (n : Nat) (cG : ClassId) (fc : Nat → Int32) (cJ1 : ClassId) (fN : Nat → Int64) (z1 : Int32) (a : Nat) (x9 : Int32) (out : Nat) (cO : ClassId) (fo : Nat → Int64) (hst : l.stackTraces = false) (hnd : ([out, n1, l1, ce] ++ ([xo, ti, gg, gr, s2, a2] ++ (rg ea n ++ rg wa n))).Nodup) (ha : a < 2 ^ 64) (hm : m ≤ 40) (hf : ∀ j, j < m → fk j = some (ea (ki j))) (hki : ∀ j, j < m → ki j < n) (hg : ∀ k, k < n → gw (wd k)) : Met l yL_rows wsL_rows { frames := 8, cells := 2, slots := 12, locals := 171 } (va_Pc [.ref xo, .long (lN a), .int x9, .ref out] (qWx D sz ([(xo, .inr (8, [.ref gg, .ref tr, .ref ti, .ref s2, .ref s3, .ref n2])), (ti, .inr (6, [.ref n1])), (gg, .inr (1, [.ref gr])), (gr, .inr (2, [.ref ce])), (s2, .inr (4, [.ref a2, .int (nI m)])), (a2, .inl (cS2, 40, .inr (.inr (.inr (.inr fk)))))] ++ (EW ea wa pf cn dp oc ic lf pt n ++ WW wa wd n)) [(out, .inl (cO, 1, .inr (.inl fo))), (n1, .inr (3, [.ref l1, .int z1])), (l1, .inl (cJ1, 401, .inr (.inl fN))), (ce, .inl (cG, 121, .inl fc))] [(cO, .long), (cJ1, .long), (cG, .int), (cS2, .object "FuzzyFens$Entry")])) (va_Qi (fun (rv : Int32) (uv : (Int32) × (Nat → Int64) × (Nat → Int32) × (Nat → Int64)) => ((rv = nI 0 ∧ (gw a ∧ 0 ≤ x9 ∧ x9 ≤ nI 3) ∧ uv.2.2.2 0 = (nI (List.length (rel (kz x9) a wd ki m))).toInt64) ∨ (rv = nI 1 ∧ ¬ (gw a ∧ 0 ≤ x9 ∧ x9 ≤ nI 3)))) (fun (uv : (Int32) × (Nat → Int64) × (Nat → Int32) × (Nat → Int64)) (tv : State) => va_P D vwCl [(out, .inl (cO, 1, .inr (.inl uv.2.2.2))), (n1, .inr (3, [.ref l1, .int uv.1])), (l1, .inl (cJ1, 401, .inr (.inl uv.2.1))), (ce, .inl (cG, 121, .inl uv.2.2.1))] tv.heap) (va_A [(out, .inl (cO, 1, .inr (.inl fo))), (n1, .inr (3, [.ref l1, .int z1])), (l1, .inl (cJ1, 401, .inr (.inl fN))), (ce, .inl (cG, 121, .inl fc))] sz)) 2 12 (va_A [(out, .inl (cO, 1, .inr (.inl fo))), (n1, .inr (3, [.ref l1, .int z1])), (l1, .inl (cJ1, 401, .inr (.inl fN))), (ce, .inl (cG, 121, .inl fc))] sz) := by
  refine va_MetW (cc := cL_rows) (maxL := 6) (ret := (some .int)) (hh := [(0, 11, 14, 13)]) (by decide) rfl ?_
  intro pM eM s mi9 argsM belowM methM cM sM B hml hv
  obtain ⟨rfl, hsz, hR0, hP, hK, hNw, hZ, hXt⟩ := hv
  have hx := B.exec
  have hb := B.bytes
  have hr := B.returns
  have hts := atoms_spec (ws := wsL_rows) B.pre
  have hta : cM.exceptionTable.toList = tableOf [(0, 11, 14, 13)] := vx_table (x := yL_rows) B (hts (.codeWith yL_rows cL_rows 6 (some .int) [(0, 11, 14, 13)]) (List.mem_of_getElem? (i := 0) rfl))
  have hown : s.vm.findClass RL = some mi9.cls := findClass_of_methodNamed B.named
  have hlocks := B.notSynchronized
  subst hsz
  have hna := q_na (RW := [(out, .inl (cO, 1, .inr (.inl fo))), (n1, .inr (3, [.ref l1, .int z1])), (l1, .inl (cJ1, 401, .inr (.inl fN))), (ce, .inl (cG, 121, .inl fc))]) (RO := [(xo, .inr (8, [.ref gg, .ref tr, .ref ti, .ref s2, .ref s3, .ref n2])), (ti, .inr (6, [.ref n1])), (gg, .inr (1, [.ref gr])), (gr, .inr (2, [.ref ce])), (s2, .inr (4, [.ref a2, .int (nI m)])), (a2, .inl (cS2, 40, .inr (.inr (.inr (.inr fk)))))] ++ (EW ea wa pf cn dp oc ic lf pt n ++ WW wa wd n)) hnd rfl (by rw [List.map_append, List.map_append, EW_fst, WW_fst]; rfl) hR0
  have hD := q_D (RW := [(out, .inl (cO, 1, .inr (.inl fo))), (n1, .inr (3, [.ref l1, .int z1])), (l1, .inl (cJ1, 401, .inr (.inl fN))), (ce, .inl (cG, 121, .inl fc))]) (sz := s.heap.size) hnd rfl
  have hnR : (([(xo, .inr (8, [.ref gg, .ref tr, .ref ti, .ref s2, .ref s3, .ref n2])), (ti, .inr (6, [.ref n1])), (gg, .inr (1, [.ref gr])), (gr, .inr (2, [.ref ce])), (s2, .inr (4, [.ref a2, .int (nI m)])), (a2, .inl (cS2, 40, .inr (.inr (.inr (.inr fk)))))] ++ (EW ea wa pf cn dp oc ic lf pt n ++ WW wa wd n) : va_W).map (·.1)).Nodup := by rw [show ([(xo, .inr (8, [.ref gg, .ref tr, .ref ti, .ref s2, .ref s3, .ref n2])), (ti, .inr (6, [.ref n1])), (gg, .inr (1, [.ref gr])), (gr, .inr (2, [.ref ce])), (s2, .inr (4, [.ref a2, .int (nI m)])), (a2, .inl (cS2, 40, .inr (.inr (.inr (.inr fk)))))] ++ (EW ea wa pf cn dp oc ic lf pt n ++ WW wa wd n) : va_W).map (·.1) = ([xo, ti, gg, gr, s2, a2] ++ (rg ea n ++ rg wa n)) from (by rw [List.map_append, List.map_append, EW_fst, WW_fst]; rfl)]; exact (List.nodup_append.mp hnd).2.1
  have hA : ∀ q : Nat, s.heap.size ≤ q → va_A [(out, .inl (cO, 1, .inr (.inl fo))), (n1, .inr (3, [.ref l1, .int z1])), (l1, .inl (cJ1, 401, .inr (.inl fN))), (ce, .inl (cG, 121, .inl fc))] s.heap.size q := fun q h => Or.inr h
  generalize hAe : va_A [(out, .inl (cO, 1, .inr (.inl fo))), (n1, .inr (3, [.ref l1, .int z1])), (l1, .inl (cJ1, 401, .inr (.inl fN))), (ce, .inl (cG, 121, .inl fc))] s.heap.size = A at hna hD hA hZ ⊢
  have hS : va_S A s.heap s.heap [] := va_S.rf
  have hR := hR0
  have hP : va_P D vwCl [(out, .inl (cO, 1, .inr (.inl fo))), (n1, .inr (3, [.ref l1, .int z1])), (l1, .inl (cJ1, 401, .inr (.inl fN))), (ce, .inl (cG, 121, .inl fc))] s.heap := hP
  have hl := lv_entry ([.ref xo, .long (lN a), .int x9, .ref out]) (n := 6) (Nat.le_of_ble_eq_true rfl)
  rw [lg_entry_eq]
  generalize (lg_sl ([.ref xo, .long (lN a), .int x9, .ref out]) ++ List.replicate (6 - (lg_sl ([.ref xo, .long (lN a), .int x9, .ref out])).length) Slot.unset).toArray = ls at hl ⊢
  have hl : lv_has ls 6 [(0, .ref xo), (1, .long (lN a)), (3, .int x9), (4, .ref out)] := hl
  refine lv_aload hx hb dL_rows_0 (lv_at hl 3 rfl) ?_
  refine lv_iconst (v := nI 0) hx hb dL_rows_2 (by decide) ?_
  refine lv_aload_n hx hb dL_rows_3 rfl (lv_at hl 0 rfl) ?_
  refine lv_lload_n hx hb dL_rows_4 rfl (lv_at hl 1 rfl) ?_
  refine lv_iload_n hx hb dL_rows_5 rfl (lv_at hl 2 rfl) ?_
  have hF := va_free (wc := [(n1, .inr (3, [.ref l1, .int z1])), (l1, .inl (cJ1, 401, .inr (.inl fN))), (ce, .inl (cG, 121, .inl fc))]) hD hS hA [1, 2, 3] rfl
  refine vx_calli (vx_runV (As := [.long (lN a), .int x9]) (rest := [.int (nI 0), .ref out]) ⟨hx, hb, hml, hown, hts⟩ (c_X9_rows (l := l) (D := D) (xo := xo) (gg := gg) (gr := gr) (ce := ce) (tr := tr) (sh := sh) (ar := ar) (ti := ti) (n1 := n1) (l1 := l1) (s2 := s2) (a2 := a2) (s3 := s3) (a3 := a3) (n2 := n2) (l2 := l2) (cS2 := cS2) (fk := fk) (m := m) (ki := ki) (ea := ea) (wa := wa) (pf := pf) (cn := cn) (dp := dp) (oc := oc) (ic := ic) (lf := lf) (pt := pt) (wd := wd) (n := n) (cG := cG) (fc := fc) (cJ1 := cJ1) (fN := fN) (z1 := z1) (a := a) (x9 := x9) (sz := s.heap.size) (hnd := (q_ndt hnd [1, 2, 3, 4, 5, 6, 7, 8, 9] rfl rfl)) (hst := hst) (ha := ha) (hm := hm) (hf := hf) (hki := hki) (hg := hg)) (cwV 2 hts gL_rows_X9_rows rfl rfl rfl (by decide +kernel) ⟨Nat.le_of_ble_eq_true rfl, Nat.le_of_ble_eq_true rfl⟩) ⟨qWx_blind, (va_recv hK hR (ci := 8) (q0 := 0) rfl rfl), (qWx_of (va_P.app (hR.sub (ws' := [(xo, .inr (8, [.ref gg, .ref tr, .ref ti, .ref s2, .ref s3, .ref n2])), (ti, .inr (6, [.ref n1])), (gg, .inr (1, [.ref gr])), (gr, .inr (2, [.ref ce])), (s2, .inr (4, [.ref a2, .int (nI m)])), (a2, .inl (cS2, 40, .inr (.inr (.inr (.inr fk)))))]) [0, 1, 2, 3, 4, 5] rfl) (q_right hR)) (hP.sub (ws' := [(n1, .inr (3, [.ref l1, .int z1])), (l1, .inl (cJ1, 401, .inr (.inl fN))), (ce, .inl (cG, 121, .inl fc))]) [1, 2, 3] rfl) (hK.sub (tys' := [(cJ1, .long), (cG, .int), (cS2, .object "FuzzyFens$Entry")]) [1, 2, 3] rfl) hNw (qZ_at hZ hS (fun q h => hF q h)) hXt)⟩ rfl rfl hl.1 rfl (lv_room (Nat.le_of_ble_eq_true rfl)) dL_rows_6 ⟨Nat.le_of_ble_eq_true rfl, Nat.le_of_ble_eq_true rfl⟩) hS (fun q _ h => hF q h) hF (fun q _ h => hF q h) (fun E9 ce9 q9 u9 t9 H9 locs9 ht9 hvm9 hpx9 hBX9 hz9 hk9 hS9 hc9 hv9 hcl9 => ?_) (fun r_1 u_5 t_4 H_2 locs_3 ht hvm hr_1 hB hz1 hk1 hS => ?_)
  · skip
    obtain ⟨hE9, hW9⟩ := hBX9
    replace hW9 : va_P D vwCl [(n1, .inr (3, [.ref l1, .int z1])), (l1, .inl (cJ1, 401, .inr (.inl fN))), (ce, .inl (cG, 121, .inl fc))] H9 := by rw [← ht9]; exact hW9
    obtain ⟨hP, hD⟩ := q_join (wc := [(n1, .inr (3, [.ref l1, .int z1])), (l1, .inl (cJ1, 401, .inr (.inl fN))), (ce, .inl (cG, 121, .inl fc))]) (w1 := [(n1, .inr (3, [.ref l1, .int z1])), (l1, .inl (cJ1, 401, .inr (.inl fN))), (ce, .inl (cG, 121, .inl fc))]) (ws' := [(out, .inl (cO, 1, .inr (.inl fo))), (n1, .inr (3, [.ref l1, .int z1])), (l1, .inl (cJ1, 401, .inr (.inl fN))), (ce, .inl (cG, 121, .inl fc))]) [1, 2, 3] hP hD rfl rfl hk9 hW9 rfl
    have hS := hS9
    have hR := q_ro hR0 hna hS
    obtain ⟨rfl, hC9⟩ := hE9
    refine vx_catch (own := RL) (name := q_IA) (E := q_IA) (ce := ce9) (q := q9) hown [] ⟨0, 11, 14, 13⟩ [] (by rw [hta]; rfl) (fun z9 h9 => absurd h9 List.not_mem_nil) rfl (by decide) (hts (.classLink RL 13 "java/lang/IllegalArgumentException") (List.mem_of_getElem? (i := 1) rfl)) (va_Nw.use rfl (hXt.2.1 (q_IA, q_IA) (by decide))) hc9 hv9 hcl9 ?_
    refine W.eq (g2 := F0 mi9 14 ls [.ref q9]) rfl ?_
    refine lv_astore (lv' := [(5, .ref q9), (0, .ref xo), (1, .long (lN a)), (3, .int x9), (4, .ref out)]) hx hb dL_rows_14 hl (by decide) rfl (fun ls hl => ?_)
    refine lv_iconst (v := nI 1) hx hb dL_rows_16 (by decide) ?_
    refine W.widen (k := 2) (n := 12) (Nat.le_of_ble_eq_true rfl) (Nat.le_of_ble_eq_true rfl) ?_
    exact W.iret (v := nI 1) hx hb hr (fun t9 ht hW => ⟨⟨nI 1, (z1, fN, fc, fo), rfl, (Or.inr (⟨rfl, hC9⟩)), by show va_P D vwCl _ t9.heap; rw [ht]; exact hP⟩, hS.F ht⟩) hS.2.2 dL_rows_17
  skip
  obtain ⟨fN2_6, fc2_7⟩ := u_5
  dsimp only at hr_1 hB
  replace hB : va_P D vwCl [(n1, .inr (3, [.ref l1, .int (nI (List.length (rel (kz x9) a wd ki m)))])), (l1, .inl (cJ1, 401, .inr (.inl fN2_6))), (ce, .inl (cG, 121, .inl fc2_7))] H_2 := by rw [← ht]; exact hB
  obtain ⟨hP, hD⟩ := q_join (wc := [(n1, .inr (3, [.ref l1, .int z1])), (l1, .inl (cJ1, 401, .inr (.inl fN))), (ce, .inl (cG, 121, .inl fc))]) (w1 := [(n1, .inr (3, [.ref l1, .int (nI (List.length (rel (kz x9) a wd ki m)))])), (l1, .inl (cJ1, 401, .inr (.inl fN2_6))), (ce, .inl (cG, 121, .inl fc2_7))]) (ws' := [(out, .inl (cO, 1, .inr (.inl fo))), (n1, .inr (3, [.ref l1, .int (nI (List.length (rel (kz x9) a wd ki m)))])), (l1, .inl (cJ1, 401, .inr (.inl fN2_6))), (ce, .inl (cG, 121, .inl fc2_7))]) [1, 2, 3] hP hD rfl rfl hk1 hB rfl
  have hR := q_ro hR0 hna hS
  obtain ⟨rfl, hF8⟩ := hr_1
  refine lv_i2l hx hb dL_rows_9 rfl ?_
  refine va_last (D := D) hx hb hK hP hD hS 0 0 rfl rfl (vp_in_nI (n := 0) (N := 1) (by omega) (by decide)) dL_rows_10 (fun H_8 locs_9 hP hD hS => ?_)
  rw [nI_clamp (n := 0) (by omega)] at hP hD
  have hP : va_P D vwCl [(out, .inl (cO, 1, .inr (.inl (vp_updL fo 0 ((nI (List.length (rel (kz x9) a wd ki m))).toInt64))))), (n1, .inr (3, [.ref l1, .int (nI (List.length (rel (kz x9) a wd ki m)))])), (l1, .inl (cJ1, 401, .inr (.inl fN2_6))), (ce, .inl (cG, 121, .inl fc2_7))] H_8 := hP
  have hD : va_D A [(out, .inl (cO, 1, .inr (.inl (vp_updL fo 0 ((nI (List.length (rel (kz x9) a wd ki m))).toInt64))))), (n1, .inr (3, [.ref l1, .int (nI (List.length (rel (kz x9) a wd ki m)))])), (l1, .inl (cJ1, 401, .inr (.inl fN2_6))), (ce, .inl (cG, 121, .inl fc2_7))] := hD
  have hR := q_ro hR0 hna hS
  refine lv_goto (tgt := 18) hx hb dL_rows_11 (by decide) ?_
  refine lv_iconst (v := nI 0) hx hb dL_rows_18 (by decide) ?_
  refine W.widen (k := 2) (n := 12) (Nat.le_of_ble_eq_true rfl) (Nat.le_of_ble_eq_true rfl) ?_
  exact W.iret (v := nI 0) hx hb hr (fun t9 ht hW => ⟨⟨nI 0, (nI (List.length (rel (kz x9) a wd ki m)), fN2_6, fc2_7, vp_updL fo 0 ((nI (List.length (rel (kz x9) a wd ki m))).toInt64)), rfl, (Or.inl ⟨rfl, ⟨hF8, rfl⟩⟩), by show va_P D vwCl _ t9.heap; rw [ht]; exact hP⟩, hS.F ht⟩) hS.2.2 dL_rows_19

set_option maxHeartbeats 4000000 in
set_option maxRecDepth 100000 in
/-- law: treeCompared -/
theorem c_L_treeCompared (l : Launch) (D : va_G) (sz : Nat) (xo : Nat) (gg : Nat) (gr : Nat) (ce : Nat) (tr : Nat) (sh : Nat) (ar : Nat) (ti : Nat) (n1 : Nat) (l1 : Nat) (s2 : Nat) (a2 : Nat) (s3 : Nat) (a3 : Nat) (n2 : Nat) (l2 : Nat) (cS : ClassId) (f : Nat → Option Nat) (ea : Nat → Nat) (wa : Nat → Nat) (pf : Nat → Option Nat) (cn : Nat → Nat) (dp : Nat → Nat) (oc : Nat → Nat) (ic : Nat → Int32) (lf : Nat → Int32) (pt : Nat → Int32) (wd : Nat → Nat) (n : Nat) (pi : Nat → Option Nat) (cG : ClassId) (fc : Nat → Int32) (a : Nat) (x9 : Int32) (CC : Nat → Bool) (out : Nat) (cO : ClassId) (fo : Nat → Int64) (hst : l.stackTraces = false) (hnd : (([out, ce] ++ (rg ea n ++ rg wa n)) ++ [xo, tr, sh, ar, gg, gr]).Nodup) (ha : a < 2 ^ 64) (hfe : ∀ j, j < n → f j = some (ea j)) (hn40 : n ≤ 40) (hg : ∀ k, k < n → gw (wd k)) (hpi : ∀ k, k < n → pf k = (pi k).map ea) (hpn : ∀ k i, k < n → pi k = some i → i < k) (hcb : ∀ k, k < n → cn k ≤ 20) (hCq : ∀ i, i < n → (CC i = true ↔ ∀ q, pi i = some q → (CC q = true ∧ cn i ≤ dst wd a q + kz x9 ∧ dst wd a q ≤ cn i + kz x9))) : Met l yL_treeCompared wsL_treeCompared { frames := 8, cells := 2, slots := 12, locals := 144 } (va_Pc [.ref xo, .long (lN a), .int x9, .ref out] (qWx D sz ([(xo, .inr (8, [.ref gg, .ref tr, .ref ti, .ref s2, .ref s3, .ref n2])), (tr, .inr (5, [.ref sh])), (sh, .inr (4, [.ref ar, .int (nI n)])), (ar, .inl (cS, 40, .inr (.inr (.inr (.inr f))))), (gg, .inr (1, [.ref gr])), (gr, .inr (2, [.ref ce]))]) ([(out, .inl (cO, 1, .inr (.inl fo))), (ce, .inl (cG, 121, .inl fc))] ++ (EW ea wa pf cn dp oc ic lf pt n ++ WW wa wd n)) [(cO, .long), (cG, .int), (cS, .object "FuzzyFens$Entry")])) (va_Qi (fun (rv : Int32) (uv : (Nat → Int32) × (Nat → Int32) × (Nat → Int32) × (Nat → Int64)) => ((rv = nI 0 ∧ (gw a ∧ 0 ≤ x9 ∧ x9 ≤ nI 3) ∧ uv.2.2.2 0 = (nI (cnt CC n)).toInt64) ∨ (rv = nI 1 ∧ ¬ (gw a ∧ 0 ≤ x9 ∧ x9 ≤ nI 3)))) (fun (uv : (Nat → Int32) × (Nat → Int32) × (Nat → Int32) × (Nat → Int64)) (tv : State) => va_P D vwCl ([(out, .inl (cO, 1, .inr (.inl uv.2.2.2))), (ce, .inl (cG, 121, .inl uv.1))] ++ (EW ea wa pf cn dp oc uv.2.1 uv.2.2.1 pt n ++ WW wa wd n)) tv.heap) (va_A ([(out, .inl (cO, 1, .inr (.inl fo))), (ce, .inl (cG, 121, .inl fc))] ++ (EW ea wa pf cn dp oc ic lf pt n ++ WW wa wd n)) sz)) 2 12 (va_A ([(out, .inl (cO, 1, .inr (.inl fo))), (ce, .inl (cG, 121, .inl fc))] ++ (EW ea wa pf cn dp oc ic lf pt n ++ WW wa wd n)) sz) := by
  refine va_MetW (cc := cL_treeCompared) (maxL := 6) (ret := (some .int)) (hh := [(0, 11, 14, 13)]) (by decide) rfl ?_
  intro pM eM s mi9 argsM belowM methM cM sM B hml hv
  obtain ⟨rfl, hsz, hR0, hP, hK, hNw, hZ, hXt⟩ := hv
  have hx := B.exec
  have hb := B.bytes
  have hr := B.returns
  have hts := atoms_spec (ws := wsL_treeCompared) B.pre
  have hta : cM.exceptionTable.toList = tableOf [(0, 11, 14, 13)] := vx_table (x := yL_treeCompared) B (hts (.codeWith yL_treeCompared cL_treeCompared 6 (some .int) [(0, 11, 14, 13)]) (List.mem_of_getElem? (i := 0) rfl))
  have hown : s.vm.findClass RL = some mi9.cls := findClass_of_methodNamed B.named
  have hlocks := B.notSynchronized
  subst hsz
  have hna := q_na (RW := ([(out, .inl (cO, 1, .inr (.inl fo))), (ce, .inl (cG, 121, .inl fc))] ++ (EW ea wa pf cn dp oc ic lf pt n ++ WW wa wd n))) (RO := [(xo, .inr (8, [.ref gg, .ref tr, .ref ti, .ref s2, .ref s3, .ref n2])), (tr, .inr (5, [.ref sh])), (sh, .inr (4, [.ref ar, .int (nI n)])), (ar, .inl (cS, 40, .inr (.inr (.inr (.inr f))))), (gg, .inr (1, [.ref gr])), (gr, .inr (2, [.ref ce]))]) hnd (by rw [List.map_append, List.map_append, EW_fst, WW_fst]; rfl) rfl hR0
  have hD := q_D (RW := ([(out, .inl (cO, 1, .inr (.inl fo))), (ce, .inl (cG, 121, .inl fc))] ++ (EW ea wa pf cn dp oc ic lf pt n ++ WW wa wd n))) (sz := s.heap.size) hnd (by rw [List.map_append, List.map_append, EW_fst, WW_fst]; rfl)
  have hnR : (([(xo, .inr (8, [.ref gg, .ref tr, .ref ti, .ref s2, .ref s3, .ref n2])), (tr, .inr (5, [.ref sh])), (sh, .inr (4, [.ref ar, .int (nI n)])), (ar, .inl (cS, 40, .inr (.inr (.inr (.inr f))))), (gg, .inr (1, [.ref gr])), (gr, .inr (2, [.ref ce]))] : va_W).map (·.1)).Nodup := by rw [show ([(xo, .inr (8, [.ref gg, .ref tr, .ref ti, .ref s2, .ref s3, .ref n2])), (tr, .inr (5, [.ref sh])), (sh, .inr (4, [.ref ar, .int (nI n)])), (ar, .inl (cS, 40, .inr (.inr (.inr (.inr f))))), (gg, .inr (1, [.ref gr])), (gr, .inr (2, [.ref ce]))] : va_W).map (·.1) = [xo, tr, sh, ar, gg, gr] from rfl]; exact (List.nodup_append.mp hnd).2.1
  have hA : ∀ q : Nat, s.heap.size ≤ q → va_A ([(out, .inl (cO, 1, .inr (.inl fo))), (ce, .inl (cG, 121, .inl fc))] ++ (EW ea wa pf cn dp oc ic lf pt n ++ WW wa wd n)) s.heap.size q := fun q h => Or.inr h
  generalize hAe : va_A ([(out, .inl (cO, 1, .inr (.inl fo))), (ce, .inl (cG, 121, .inl fc))] ++ (EW ea wa pf cn dp oc ic lf pt n ++ WW wa wd n)) s.heap.size = A at hna hD hA hZ ⊢
  have hS : va_S A s.heap s.heap [] := va_S.rf
  have hR := hR0
  have hP : va_P D vwCl ([(out, .inl (cO, 1, .inr (.inl fo))), (ce, .inl (cG, 121, .inl fc))] ++ (EW ea wa pf cn dp oc ic lf pt n ++ WW wa wd n)) s.heap := hP
  have hl := lv_entry ([.ref xo, .long (lN a), .int x9, .ref out]) (n := 6) (Nat.le_of_ble_eq_true rfl)
  rw [lg_entry_eq]
  generalize (lg_sl ([.ref xo, .long (lN a), .int x9, .ref out]) ++ List.replicate (6 - (lg_sl ([.ref xo, .long (lN a), .int x9, .ref out])).length) Slot.unset).toArray = ls at hl ⊢
  have hl : lv_has ls 6 [(0, .ref xo), (1, .long (lN a)), (3, .int x9), (4, .ref out)] := hl
  refine lv_aload hx hb dL_treeCompared_0 (lv_at hl 3 rfl) ?_
  refine lv_iconst (v := nI 0) hx hb dL_treeCompared_2 (by decide) ?_
  refine lv_aload_n hx hb dL_treeCompared_3 rfl (lv_at hl 0 rfl) ?_
  refine lv_lload_n hx hb dL_treeCompared_4 rfl (lv_at hl 1 rfl) ?_
  refine lv_iload_n hx hb dL_treeCompared_5 rfl (lv_at hl 2 rfl) ?_
  have hF := q_freeT (X := [(out, .inl (cO, 1, .inr (.inl fo))), (ce, .inl (cG, 121, .inl fc))]) (T := (EW ea wa pf cn dp oc ic lf pt n ++ WW wa wd n)) (cx := [(ce, .inl (cG, 121, .inl fc))]) hD hS hA [1] rfl
  refine vx_calli (vx_runV (As := [.long (lN a), .int x9]) (rest := [.int (nI 0), .ref out]) ⟨hx, hb, hml, hown, hts⟩ (c_X9_treeCompared (l := l) (D := D) (xo := xo) (gg := gg) (gr := gr) (ce := ce) (tr := tr) (sh := sh) (ar := ar) (ti := ti) (n1 := n1) (l1 := l1) (s2 := s2) (a2 := a2) (s3 := s3) (a3 := a3) (n2 := n2) (l2 := l2) (cS := cS) (f := f) (ea := ea) (wa := wa) (pf := pf) (cn := cn) (dp := dp) (oc := oc) (ic := ic) (lf := lf) (pt := pt) (wd := wd) (n := n) (pi := pi) (cG := cG) (fc := fc) (a := a) (x9 := x9) (CC := CC) (sz := s.heap.size) (hnd := (q_ndws (q_ndt (a' := [ce]) (b' := [xo, tr, sh, ar, gg, gr]) (q_ndsw (q_ndg (l1 := [out, ce] ++ (rg ea n ++ rg wa n)) (l2 := [xo, tr, sh, ar, gg, gr]) hD hnR hna (by rw [List.map_append, List.map_append, EW_fst, WW_fst]; rfl) rfl)) [1, 2, 3, 4, 5, 6, 7] rfl rfl))) (hst := hst) (ha := ha) (hfe := hfe) (hn40 := hn40) (hg := hg) (hpi := hpi) (hpn := hpn) (hcb := hcb) (hCq := hCq)) (cwV 2 hts gL_treeCompared_X9_treeCompared rfl rfl rfl (by decide +kernel) ⟨Nat.le_of_ble_eq_true rfl, Nat.le_of_ble_eq_true rfl⟩) ⟨qWx_blind, (va_recv hK hR (ci := 8) (q0 := 0) rfl rfl), (qWx_of (hR.sub (ws' := [(xo, .inr (8, [.ref gg, .ref tr, .ref ti, .ref s2, .ref s3, .ref n2])), (tr, .inr (5, [.ref sh])), (sh, .inr (4, [.ref ar, .int (nI n)])), (ar, .inl (cS, 40, .inr (.inr (.inr (.inr f))))), (gg, .inr (1, [.ref gr])), (gr, .inr (2, [.ref ce]))]) [0, 1, 2, 3, 4, 5] rfl) (va_P.app (hP.sub (ws' := [(ce, .inl (cG, 121, .inl fc))]) [1] rfl) (q_right hP)) (hK.sub (tys' := [(cG, .int), (cS, .object "FuzzyFens$Entry")]) [1, 2] rfl) hNw (qZ_at hZ hS (fun q h => hF q h)) hXt)⟩ rfl rfl hl.1 rfl (lv_room (Nat.le_of_ble_eq_true rfl)) dL_treeCompared_6 ⟨Nat.le_of_ble_eq_true rfl, Nat.le_of_ble_eq_true rfl⟩) hS (fun q _ h => hF q h) hF (fun q _ h => hF q h) (fun E9 ce9 q9 u9 t9 H9 locs9 ht9 hvm9 hpx9 hBX9 hz9 hk9 hS9 hc9 hv9 hcl9 => ?_) (fun r_1 u_5 t_4 H_2 locs_3 ht hvm hr_1 hB hz1 hk1 hS => ?_)
  · skip
    obtain ⟨hE9, hW9⟩ := hBX9
    replace hW9 : va_P D vwCl ([(ce, .inl (cG, 121, .inl fc))] ++ (EW ea wa pf cn dp oc ic lf pt n ++ WW wa wd n)) H9 := by rw [← ht9]; exact hW9
    obtain ⟨hP, hD⟩ := q_joinT (X := [(out, .inl (cO, 1, .inr (.inl fo))), (ce, .inl (cG, 121, .inl fc))]) (T := (EW ea wa pf cn dp oc ic lf pt n ++ WW wa wd n)) (cx := [(ce, .inl (cG, 121, .inl fc))]) (cx' := [(ce, .inl (cG, 121, .inl fc))]) (T' := (EW ea wa pf cn dp oc ic lf pt n ++ WW wa wd n)) (X' := [(out, .inl (cO, 1, .inr (.inl fo))), (ce, .inl (cG, 121, .inl fc))]) [1] hP hD rfl rfl (by simp only [List.map_append, EW_fst, WW_fst]) hk9 hW9 rfl
    have hS := hS9
    have hR := q_ro hR0 hna hS
    obtain ⟨rfl, hC9⟩ := hE9
    refine vx_catch (own := RL) (name := q_IA) (E := q_IA) (ce := ce9) (q := q9) hown [] ⟨0, 11, 14, 13⟩ [] (by rw [hta]; rfl) (fun z9 h9 => absurd h9 List.not_mem_nil) rfl (by decide) (hts (.classLink RL 13 "java/lang/IllegalArgumentException") (List.mem_of_getElem? (i := 1) rfl)) (va_Nw.use rfl (hXt.2.1 (q_IA, q_IA) (by decide))) hc9 hv9 hcl9 ?_
    refine W.eq (g2 := F0 mi9 14 ls [.ref q9]) rfl ?_
    refine lv_astore (lv' := [(5, .ref q9), (0, .ref xo), (1, .long (lN a)), (3, .int x9), (4, .ref out)]) hx hb dL_treeCompared_14 hl (by decide) rfl (fun ls hl => ?_)
    refine lv_iconst (v := nI 1) hx hb dL_treeCompared_16 (by decide) ?_
    refine W.widen (k := 2) (n := 12) (Nat.le_of_ble_eq_true rfl) (Nat.le_of_ble_eq_true rfl) ?_
    exact W.iret (v := nI 1) hx hb hr (fun t9 ht hW => ⟨⟨nI 1, (fc, ic, lf, fo), rfl, (Or.inr (⟨rfl, hC9⟩)), by show va_P D vwCl _ t9.heap; rw [ht]; exact hP⟩, hS.F ht⟩) hS.2.2 dL_treeCompared_17
  skip
  obtain ⟨fc2_6, ic2_7, lf2_8⟩ := u_5
  dsimp only at hr_1 hB
  replace hB : va_P D vwCl ([(ce, .inl (cG, 121, .inl fc2_6))] ++ (EW ea wa pf cn dp oc ic2_7 lf2_8 pt n ++ WW wa wd n)) H_2 := by rw [← ht]; exact hB
  obtain ⟨hP, hD⟩ := q_joinT (X := [(out, .inl (cO, 1, .inr (.inl fo))), (ce, .inl (cG, 121, .inl fc))]) (T := (EW ea wa pf cn dp oc ic lf pt n ++ WW wa wd n)) (cx := [(ce, .inl (cG, 121, .inl fc))]) (cx' := [(ce, .inl (cG, 121, .inl fc2_6))]) (T' := (EW ea wa pf cn dp oc ic2_7 lf2_8 pt n ++ WW wa wd n)) (X' := [(out, .inl (cO, 1, .inr (.inl fo))), (ce, .inl (cG, 121, .inl fc2_6))]) [1] hP hD rfl rfl (by simp only [List.map_append, EW_fst, WW_fst]) hk1 hB rfl
  have hR := q_ro hR0 hna hS
  obtain ⟨rfl, hF8⟩ := hr_1
  refine lv_i2l hx hb dL_treeCompared_9 rfl ?_
  refine va_last (D := D) hx hb hK hP hD hS 0 0 rfl rfl (vp_in_nI (n := 0) (N := 1) (by omega) (by decide)) dL_treeCompared_10 (fun H_9 locs_10 hP hD hS => ?_)
  rw [nI_clamp (n := 0) (by omega)] at hP hD
  have hP : va_P D vwCl ([(out, .inl (cO, 1, .inr (.inl (vp_updL fo 0 ((nI (cnt CC n)).toInt64))))), (ce, .inl (cG, 121, .inl fc2_6))] ++ (EW ea wa pf cn dp oc ic2_7 lf2_8 pt n ++ WW wa wd n)) H_9 := hP
  have hD : va_D A ([(out, .inl (cO, 1, .inr (.inl (vp_updL fo 0 ((nI (cnt CC n)).toInt64))))), (ce, .inl (cG, 121, .inl fc2_6))] ++ (EW ea wa pf cn dp oc ic2_7 lf2_8 pt n ++ WW wa wd n)) := hD
  have hR := q_ro hR0 hna hS
  refine lv_goto (tgt := 18) hx hb dL_treeCompared_11 (by decide) ?_
  refine lv_iconst (v := nI 0) hx hb dL_treeCompared_18 (by decide) ?_
  refine W.widen (k := 2) (n := 12) (Nat.le_of_ble_eq_true rfl) (Nat.le_of_ble_eq_true rfl) ?_
  exact W.iret (v := nI 0) hx hb hr (fun t9 ht hW => ⟨⟨nI 0, (fc2_6, ic2_7, lf2_8, vp_updL fo 0 ((nI (cnt CC n)).toInt64)), rfl, (Or.inl ⟨rfl, ⟨hF8, rfl⟩⟩), by show va_P D vwCl _ t9.heap; rw [ht]; exact hP⟩, hS.F ht⟩) hS.2.2 dL_treeCompared_19

set_option maxHeartbeats 4000000 in
set_option maxRecDepth 100000 in
/-- law: neighbourhood -/
theorem c_L_neighbourhood (l : Launch) (D : va_G) (sz : Nat) (xo : Nat) (gg : Nat) (gr : Nat) (ce : Nat) (tr : Nat) (sh : Nat) (ar : Nat) (ti : Nat) (n1 : Nat) (l1 : Nat) (s2 : Nat) (a2 : Nat) (s3 : Nat) (a3 : Nat) (n2 : Nat) (l2 : Nat) (cJ2 : ClassId) (fs : Nat → Int64) (z2 : Int32) (a : Nat) (x9 : Int32) (out : Nat) (cO : ClassId) (fo : Nat → Int64) (hst : l.stackTraces = false) (hnd : ([out, n2, l2] ++ [xo]).Nodup) (ha : a < 2 ^ 64) : Met l yL_neighbourhood wsL_neighbourhood { frames := 8, cells := 2, slots := 12, locals := 128 } (va_Pc [.ref xo, .long (lN a), .int x9, .ref out] (qWx D sz ([(xo, .inr (8, [.ref gg, .ref tr, .ref ti, .ref s2, .ref s3, .ref n2]))]) [(out, .inl (cO, 1, .inr (.inl fo))), (n2, .inr (3, [.ref l2, .int z2])), (l2, .inl (cJ2, 56, .inr (.inl fs)))] [(cO, .long), (cJ2, .long)])) (va_Qi (fun (rv : Int32) (uv : (Int32) × (Nat → Int64) × (Nat → Int64)) => ((rv = nI 0 ∧ (gw a ∧ 0 ≤ x9 ∧ x9 ≤ nI 2) ∧ uv.2.2 0 = (nI (List.length (csq (kz x9) a))).toInt64) ∨ (rv = nI 1 ∧ ¬ (gw a ∧ 0 ≤ x9 ∧ x9 ≤ nI 2)))) (fun (uv : (Int32) × (Nat → Int64) × (Nat → Int64)) (tv : State) => va_P D vwCl [(out, .inl (cO, 1, .inr (.inl uv.2.2))), (n2, .inr (3, [.ref l2, .int uv.1])), (l2, .inl (cJ2, 56, .inr (.inl uv.2.1)))] tv.heap) (va_A [(out, .inl (cO, 1, .inr (.inl fo))), (n2, .inr (3, [.ref l2, .int z2])), (l2, .inl (cJ2, 56, .inr (.inl fs)))] sz)) 2 12 (va_A [(out, .inl (cO, 1, .inr (.inl fo))), (n2, .inr (3, [.ref l2, .int z2])), (l2, .inl (cJ2, 56, .inr (.inl fs)))] sz) := by
  refine va_MetW (cc := cL_neighbourhood) (maxL := 6) (ret := (some .int)) (hh := [(0, 11, 14, 13)]) (by decide) rfl ?_
  intro pM eM s mi9 argsM belowM methM cM sM B hml hv
  obtain ⟨rfl, hsz, hR0, hP, hK, hNw, hZ, hXt⟩ := hv
  have hx := B.exec
  have hb := B.bytes
  have hr := B.returns
  have hts := atoms_spec (ws := wsL_neighbourhood) B.pre
  have hta : cM.exceptionTable.toList = tableOf [(0, 11, 14, 13)] := vx_table (x := yL_neighbourhood) B (hts (.codeWith yL_neighbourhood cL_neighbourhood 6 (some .int) [(0, 11, 14, 13)]) (List.mem_of_getElem? (i := 0) rfl))
  have hown : s.vm.findClass RL = some mi9.cls := findClass_of_methodNamed B.named
  have hlocks := B.notSynchronized
  subst hsz
  have hna := q_na (RW := [(out, .inl (cO, 1, .inr (.inl fo))), (n2, .inr (3, [.ref l2, .int z2])), (l2, .inl (cJ2, 56, .inr (.inl fs)))]) (RO := [(xo, .inr (8, [.ref gg, .ref tr, .ref ti, .ref s2, .ref s3, .ref n2]))]) hnd rfl rfl hR0
  have hD := q_D (RW := [(out, .inl (cO, 1, .inr (.inl fo))), (n2, .inr (3, [.ref l2, .int z2])), (l2, .inl (cJ2, 56, .inr (.inl fs)))]) (sz := s.heap.size) hnd rfl
  have hnR : (([(xo, .inr (8, [.ref gg, .ref tr, .ref ti, .ref s2, .ref s3, .ref n2]))] : va_W).map (·.1)).Nodup := by rw [show ([(xo, .inr (8, [.ref gg, .ref tr, .ref ti, .ref s2, .ref s3, .ref n2]))] : va_W).map (·.1) = [xo] from rfl]; exact (List.nodup_append.mp hnd).2.1
  have hA : ∀ q : Nat, s.heap.size ≤ q → va_A [(out, .inl (cO, 1, .inr (.inl fo))), (n2, .inr (3, [.ref l2, .int z2])), (l2, .inl (cJ2, 56, .inr (.inl fs)))] s.heap.size q := fun q h => Or.inr h
  generalize hAe : va_A [(out, .inl (cO, 1, .inr (.inl fo))), (n2, .inr (3, [.ref l2, .int z2])), (l2, .inl (cJ2, 56, .inr (.inl fs)))] s.heap.size = A at hna hD hA hZ ⊢
  have hS : va_S A s.heap s.heap [] := va_S.rf
  have hR := hR0
  have hP : va_P D vwCl [(out, .inl (cO, 1, .inr (.inl fo))), (n2, .inr (3, [.ref l2, .int z2])), (l2, .inl (cJ2, 56, .inr (.inl fs)))] s.heap := hP
  have hl := lv_entry ([.ref xo, .long (lN a), .int x9, .ref out]) (n := 6) (Nat.le_of_ble_eq_true rfl)
  rw [lg_entry_eq]
  generalize (lg_sl ([.ref xo, .long (lN a), .int x9, .ref out]) ++ List.replicate (6 - (lg_sl ([.ref xo, .long (lN a), .int x9, .ref out])).length) Slot.unset).toArray = ls at hl ⊢
  have hl : lv_has ls 6 [(0, .ref xo), (1, .long (lN a)), (3, .int x9), (4, .ref out)] := hl
  refine lv_aload hx hb dL_neighbourhood_0 (lv_at hl 3 rfl) ?_
  refine lv_iconst (v := nI 0) hx hb dL_neighbourhood_2 (by decide) ?_
  refine lv_aload_n hx hb dL_neighbourhood_3 rfl (lv_at hl 0 rfl) ?_
  refine lv_lload_n hx hb dL_neighbourhood_4 rfl (lv_at hl 1 rfl) ?_
  refine lv_iload_n hx hb dL_neighbourhood_5 rfl (lv_at hl 2 rfl) ?_
  have hF := va_free (wc := [(n2, .inr (3, [.ref l2, .int z2])), (l2, .inl (cJ2, 56, .inr (.inl fs)))]) hD hS hA [1, 2] rfl
  refine vx_calli (vx_runV (As := [.long (lN a), .int x9]) (rest := [.int (nI 0), .ref out]) ⟨hx, hb, hml, hown, hts⟩ (c_X9_neighbourhood (l := l) (D := D) (xo := xo) (gg := gg) (gr := gr) (ce := ce) (tr := tr) (sh := sh) (ar := ar) (ti := ti) (n1 := n1) (l1 := l1) (s2 := s2) (a2 := a2) (s3 := s3) (a3 := a3) (n2 := n2) (l2 := l2) (cJ2 := cJ2) (fs := fs) (z2 := z2) (a := a) (x9 := x9) (sz := s.heap.size) (hnd := (q_nds hnd [1, 2, 3] rfl rfl)) (hst := hst) (ha := ha)) (cwV 2 hts gL_neighbourhood_X9_neighbourhood rfl rfl rfl (by decide +kernel) ⟨Nat.le_of_ble_eq_true rfl, Nat.le_of_ble_eq_true rfl⟩) ⟨qWx_blind, (va_recv hK hR (ci := 8) (q0 := 0) rfl rfl), (qWx_of (hR.sub (ws' := [(xo, .inr (8, [.ref gg, .ref tr, .ref ti, .ref s2, .ref s3, .ref n2]))]) [0] rfl) (hP.sub (ws' := [(n2, .inr (3, [.ref l2, .int z2])), (l2, .inl (cJ2, 56, .inr (.inl fs)))]) [1, 2] rfl) (hK.sub (tys' := [(cJ2, .long)]) [1] rfl) hNw (qZ_at hZ hS (fun q h => hF q h)) hXt)⟩ rfl rfl hl.1 rfl (lv_room (Nat.le_of_ble_eq_true rfl)) dL_neighbourhood_6 ⟨Nat.le_of_ble_eq_true rfl, Nat.le_of_ble_eq_true rfl⟩) hS (fun q _ h => hF q h) hF (fun q _ h => hF q h) (fun E9 ce9 q9 u9 t9 H9 locs9 ht9 hvm9 hpx9 hBX9 hz9 hk9 hS9 hc9 hv9 hcl9 => ?_) (fun r_1 u_5 t_4 H_2 locs_3 ht hvm hr_1 hB hz1 hk1 hS => ?_)
  · skip
    obtain ⟨hE9, hW9⟩ := hBX9
    replace hW9 : va_P D vwCl [(n2, .inr (3, [.ref l2, .int z2])), (l2, .inl (cJ2, 56, .inr (.inl fs)))] H9 := by rw [← ht9]; exact hW9
    obtain ⟨hP, hD⟩ := q_join (wc := [(n2, .inr (3, [.ref l2, .int z2])), (l2, .inl (cJ2, 56, .inr (.inl fs)))]) (w1 := [(n2, .inr (3, [.ref l2, .int z2])), (l2, .inl (cJ2, 56, .inr (.inl fs)))]) (ws' := [(out, .inl (cO, 1, .inr (.inl fo))), (n2, .inr (3, [.ref l2, .int z2])), (l2, .inl (cJ2, 56, .inr (.inl fs)))]) [1, 2] hP hD rfl rfl hk9 hW9 rfl
    have hS := hS9
    have hR := q_ro hR0 hna hS
    obtain ⟨rfl, hC9⟩ := hE9
    refine vx_catch (own := RL) (name := q_IA) (E := q_IA) (ce := ce9) (q := q9) hown [] ⟨0, 11, 14, 13⟩ [] (by rw [hta]; rfl) (fun z9 h9 => absurd h9 List.not_mem_nil) rfl (by decide) (hts (.classLink RL 13 "java/lang/IllegalArgumentException") (List.mem_of_getElem? (i := 1) rfl)) (va_Nw.use rfl (hXt.2.1 (q_IA, q_IA) (by decide))) hc9 hv9 hcl9 ?_
    refine W.eq (g2 := F0 mi9 14 ls [.ref q9]) rfl ?_
    refine lv_astore (lv' := [(5, .ref q9), (0, .ref xo), (1, .long (lN a)), (3, .int x9), (4, .ref out)]) hx hb dL_neighbourhood_14 hl (by decide) rfl (fun ls hl => ?_)
    refine lv_iconst (v := nI 1) hx hb dL_neighbourhood_16 (by decide) ?_
    refine W.widen (k := 2) (n := 12) (Nat.le_of_ble_eq_true rfl) (Nat.le_of_ble_eq_true rfl) ?_
    exact W.iret (v := nI 1) hx hb hr (fun t9 ht hW => ⟨⟨nI 1, (z2, fs, fo), rfl, (Or.inr (⟨rfl, hC9⟩)), by show va_P D vwCl _ t9.heap; rw [ht]; exact hP⟩, hS.F ht⟩) hS.2.2 dL_neighbourhood_17
  skip
  obtain ⟨fs2_6, rfl⟩ : ∃ z, z = u_5 := ⟨_, rfl⟩
  replace hB : va_P D vwCl [(n2, .inr (3, [.ref l2, .int (nI (List.length (csq (kz x9) a)))])), (l2, .inl (cJ2, 56, .inr (.inl fs2_6)))] H_2 := by rw [← ht]; exact hB
  obtain ⟨hP, hD⟩ := q_join (wc := [(n2, .inr (3, [.ref l2, .int z2])), (l2, .inl (cJ2, 56, .inr (.inl fs)))]) (w1 := [(n2, .inr (3, [.ref l2, .int (nI (List.length (csq (kz x9) a)))])), (l2, .inl (cJ2, 56, .inr (.inl fs2_6)))]) (ws' := [(out, .inl (cO, 1, .inr (.inl fo))), (n2, .inr (3, [.ref l2, .int (nI (List.length (csq (kz x9) a)))])), (l2, .inl (cJ2, 56, .inr (.inl fs2_6)))]) [1, 2] hP hD rfl rfl hk1 hB rfl
  have hR := q_ro hR0 hna hS
  obtain ⟨rfl, hF8⟩ := hr_1
  refine lv_i2l hx hb dL_neighbourhood_9 rfl ?_
  refine va_last (D := D) hx hb hK hP hD hS 0 0 rfl rfl (vp_in_nI (n := 0) (N := 1) (by omega) (by decide)) dL_neighbourhood_10 (fun H_7 locs_8 hP hD hS => ?_)
  rw [nI_clamp (n := 0) (by omega)] at hP hD
  have hP : va_P D vwCl [(out, .inl (cO, 1, .inr (.inl (vp_updL fo 0 ((nI (List.length (csq (kz x9) a))).toInt64))))), (n2, .inr (3, [.ref l2, .int (nI (List.length (csq (kz x9) a)))])), (l2, .inl (cJ2, 56, .inr (.inl fs2_6)))] H_7 := hP
  have hD : va_D A [(out, .inl (cO, 1, .inr (.inl (vp_updL fo 0 ((nI (List.length (csq (kz x9) a))).toInt64))))), (n2, .inr (3, [.ref l2, .int (nI (List.length (csq (kz x9) a)))])), (l2, .inl (cJ2, 56, .inr (.inl fs2_6)))] := hD
  have hR := q_ro hR0 hna hS
  refine lv_goto (tgt := 18) hx hb dL_neighbourhood_11 (by decide) ?_
  refine lv_iconst (v := nI 0) hx hb dL_neighbourhood_18 (by decide) ?_
  refine W.widen (k := 2) (n := 12) (Nat.le_of_ble_eq_true rfl) (Nat.le_of_ble_eq_true rfl) ?_
  exact W.iret (v := nI 0) hx hb hr (fun t9 ht hW => ⟨⟨nI 0, (nI (List.length (csq (kz x9) a)), fs2_6, vp_updL fo 0 ((nI (List.length (csq (kz x9) a))).toInt64)), rfl, (Or.inl ⟨rfl, ⟨hF8, rfl⟩⟩), by show va_P D vwCl _ t9.heap; rw [ht]; exact hP⟩, hS.F ht⟩) hS.2.2 dL_neighbourhood_19

set_option maxHeartbeats 4000000 in
set_option maxRecDepth 100000 in
/-- law: corrections -/
theorem c_L_corrections (l : Launch) (D : va_G) (sz : Nat) (xo : Nat) (gg : Nat) (gr : Nat) (ce : Nat) (tr : Nat) (sh : Nat) (ar : Nat) (ti : Nat) (n1 : Nat) (l1 : Nat) (s2 : Nat) (a2 : Nat) (s3 : Nat) (a3 : Nat) (n2 : Nat) (l2 : Nat) (cS2 : ClassId) (fk : Nat → Option Nat) (m : Nat) (ki : Nat → Nat) (ea : Nat → Nat) (wa : Nat → Nat) (pf : Nat → Option Nat) (cn : Nat → Nat) (dp : Nat → Nat) (oc : Nat → Nat) (ic : Nat → Int32) (lf : Nat → Int32) (pt : Nat → Int32) (wd : Nat → Nat) (n : Nat) (cG : ClassId) (fc : Nat → Int32) (cS3 : ClassId) (fr : Nat → Option Nat) (z3 : Int32) (a : Nat) (x9 : Int32) (out : Nat) (cO : ClassId) (fo : Nat → Int64) (hst : l.stackTraces = false) (hnd : (([out, s3, a3, ce] ++ (rg ea n ++ rg wa n)) ++ [xo, gg, gr, s2, a2]).Nodup) (ha : a < 2 ^ 64) (hm : m ≤ 40) (hf : ∀ j, j < m → fk j = some (ea (ki j))) (hki : ∀ j, j < m → ki j < n) (hg : ∀ k, k < n → gw (wd k)) (hob : ∀ k, k < n → oc k < 2 ^ 31) : Met l yL_corrections wsL_corrections { frames := 8, cells := 2, slots := 12, locals := 165 } (va_Pc [.ref xo, .long (lN a), .int x9, .ref out] (qWx D sz ([(xo, .inr (8, [.ref gg, .ref tr, .ref ti, .ref s2, .ref s3, .ref n2])), (gg, .inr (1, [.ref gr])), (gr, .inr (2, [.ref ce])), (s2, .inr (4, [.ref a2, .int (nI m)])), (a2, .inl (cS2, 40, .inr (.inr (.inr (.inr fk)))))]) ([(out, .inl (cO, 1, .inr (.inl fo))), (s3, .inr (4, [.ref a3, .int z3])), (a3, .inl (cS3, 40, .inr (.inr (.inr (.inr fr))))), (ce, .inl (cG, 121, .inl fc))] ++ (EW ea wa pf cn dp oc ic lf pt n ++ WW wa wd n)) [(cO, .long), (cS3, .object "FuzzyFens$Entry"), (cG, .int), (cS2, .object "FuzzyFens$Entry")])) (va_Qi (fun (rv : Int32) (uv : (Int32) × (Nat → Option Nat) × (Nat → Int32) × (Nat → Int32) × (Nat → Int64)) => ((rv = nI 0 ∧ (gw a ∧ 0 ≤ x9 ∧ x9 ≤ nI 3) ∧ uv.2.2.2.2 0 = (nI (rkc wd oc ki a (kz x9) m)).toInt64) ∨ (rv = nI 1 ∧ ¬ (gw a ∧ 0 ≤ x9 ∧ x9 ≤ nI 3)))) (fun (uv : (Int32) × (Nat → Option Nat) × (Nat → Int32) × (Nat → Int32) × (Nat → Int64)) (tv : State) => va_P D vwCl ([(out, .inl (cO, 1, .inr (.inl uv.2.2.2.2))), (s3, .inr (4, [.ref a3, .int uv.1])), (a3, .inl (cS3, 40, .inr (.inr (.inr (.inr uv.2.1))))), (ce, .inl (cG, 121, .inl uv.2.2.1))] ++ (EW ea wa pf cn dp oc ic lf uv.2.2.2.1 n ++ WW wa wd n)) tv.heap) (va_A ([(out, .inl (cO, 1, .inr (.inl fo))), (s3, .inr (4, [.ref a3, .int z3])), (a3, .inl (cS3, 40, .inr (.inr (.inr (.inr fr))))), (ce, .inl (cG, 121, .inl fc))] ++ (EW ea wa pf cn dp oc ic lf pt n ++ WW wa wd n)) sz)) 2 12 (va_A ([(out, .inl (cO, 1, .inr (.inl fo))), (s3, .inr (4, [.ref a3, .int z3])), (a3, .inl (cS3, 40, .inr (.inr (.inr (.inr fr))))), (ce, .inl (cG, 121, .inl fc))] ++ (EW ea wa pf cn dp oc ic lf pt n ++ WW wa wd n)) sz) := by
  refine va_MetW (cc := cL_corrections) (maxL := 6) (ret := (some .int)) (hh := [(0, 11, 14, 13)]) (by decide) rfl ?_
  intro pM eM s mi9 argsM belowM methM cM sM B hml hv
  obtain ⟨rfl, hsz, hR0, hP, hK, hNw, hZ, hXt⟩ := hv
  have hx := B.exec
  have hb := B.bytes
  have hr := B.returns
  have hts := atoms_spec (ws := wsL_corrections) B.pre
  have hta : cM.exceptionTable.toList = tableOf [(0, 11, 14, 13)] := vx_table (x := yL_corrections) B (hts (.codeWith yL_corrections cL_corrections 6 (some .int) [(0, 11, 14, 13)]) (List.mem_of_getElem? (i := 0) rfl))
  have hown : s.vm.findClass RL = some mi9.cls := findClass_of_methodNamed B.named
  have hlocks := B.notSynchronized
  subst hsz
  have hna := q_na (RW := ([(out, .inl (cO, 1, .inr (.inl fo))), (s3, .inr (4, [.ref a3, .int z3])), (a3, .inl (cS3, 40, .inr (.inr (.inr (.inr fr))))), (ce, .inl (cG, 121, .inl fc))] ++ (EW ea wa pf cn dp oc ic lf pt n ++ WW wa wd n))) (RO := [(xo, .inr (8, [.ref gg, .ref tr, .ref ti, .ref s2, .ref s3, .ref n2])), (gg, .inr (1, [.ref gr])), (gr, .inr (2, [.ref ce])), (s2, .inr (4, [.ref a2, .int (nI m)])), (a2, .inl (cS2, 40, .inr (.inr (.inr (.inr fk)))))]) hnd (by rw [List.map_append, List.map_append, EW_fst, WW_fst]; rfl) rfl hR0
  have hD := q_D (RW := ([(out, .inl (cO, 1, .inr (.inl fo))), (s3, .inr (4, [.ref a3, .int z3])), (a3, .inl (cS3, 40, .inr (.inr (.inr (.inr fr))))), (ce, .inl (cG, 121, .inl fc))] ++ (EW ea wa pf cn dp oc ic lf pt n ++ WW wa wd n))) (sz := s.heap.size) hnd (by rw [List.map_append, List.map_append, EW_fst, WW_fst]; rfl)
  have hnR : (([(xo, .inr (8, [.ref gg, .ref tr, .ref ti, .ref s2, .ref s3, .ref n2])), (gg, .inr (1, [.ref gr])), (gr, .inr (2, [.ref ce])), (s2, .inr (4, [.ref a2, .int (nI m)])), (a2, .inl (cS2, 40, .inr (.inr (.inr (.inr fk)))))] : va_W).map (·.1)).Nodup := by rw [show ([(xo, .inr (8, [.ref gg, .ref tr, .ref ti, .ref s2, .ref s3, .ref n2])), (gg, .inr (1, [.ref gr])), (gr, .inr (2, [.ref ce])), (s2, .inr (4, [.ref a2, .int (nI m)])), (a2, .inl (cS2, 40, .inr (.inr (.inr (.inr fk)))))] : va_W).map (·.1) = [xo, gg, gr, s2, a2] from rfl]; exact (List.nodup_append.mp hnd).2.1
  have hA : ∀ q : Nat, s.heap.size ≤ q → va_A ([(out, .inl (cO, 1, .inr (.inl fo))), (s3, .inr (4, [.ref a3, .int z3])), (a3, .inl (cS3, 40, .inr (.inr (.inr (.inr fr))))), (ce, .inl (cG, 121, .inl fc))] ++ (EW ea wa pf cn dp oc ic lf pt n ++ WW wa wd n)) s.heap.size q := fun q h => Or.inr h
  generalize hAe : va_A ([(out, .inl (cO, 1, .inr (.inl fo))), (s3, .inr (4, [.ref a3, .int z3])), (a3, .inl (cS3, 40, .inr (.inr (.inr (.inr fr))))), (ce, .inl (cG, 121, .inl fc))] ++ (EW ea wa pf cn dp oc ic lf pt n ++ WW wa wd n)) s.heap.size = A at hna hD hA hZ ⊢
  have hS : va_S A s.heap s.heap [] := va_S.rf
  have hR := hR0
  have hP : va_P D vwCl ([(out, .inl (cO, 1, .inr (.inl fo))), (s3, .inr (4, [.ref a3, .int z3])), (a3, .inl (cS3, 40, .inr (.inr (.inr (.inr fr))))), (ce, .inl (cG, 121, .inl fc))] ++ (EW ea wa pf cn dp oc ic lf pt n ++ WW wa wd n)) s.heap := hP
  have hl := lv_entry ([.ref xo, .long (lN a), .int x9, .ref out]) (n := 6) (Nat.le_of_ble_eq_true rfl)
  rw [lg_entry_eq]
  generalize (lg_sl ([.ref xo, .long (lN a), .int x9, .ref out]) ++ List.replicate (6 - (lg_sl ([.ref xo, .long (lN a), .int x9, .ref out])).length) Slot.unset).toArray = ls at hl ⊢
  have hl : lv_has ls 6 [(0, .ref xo), (1, .long (lN a)), (3, .int x9), (4, .ref out)] := hl
  refine lv_aload hx hb dL_corrections_0 (lv_at hl 3 rfl) ?_
  refine lv_iconst (v := nI 0) hx hb dL_corrections_2 (by decide) ?_
  refine lv_aload_n hx hb dL_corrections_3 rfl (lv_at hl 0 rfl) ?_
  refine lv_lload_n hx hb dL_corrections_4 rfl (lv_at hl 1 rfl) ?_
  refine lv_iload_n hx hb dL_corrections_5 rfl (lv_at hl 2 rfl) ?_
  have hF := q_freeT (X := [(out, .inl (cO, 1, .inr (.inl fo))), (s3, .inr (4, [.ref a3, .int z3])), (a3, .inl (cS3, 40, .inr (.inr (.inr (.inr fr))))), (ce, .inl (cG, 121, .inl fc))]) (T := (EW ea wa pf cn dp oc ic lf pt n ++ WW wa wd n)) (cx := [(s3, .inr (4, [.ref a3, .int z3])), (a3, .inl (cS3, 40, .inr (.inr (.inr (.inr fr))))), (ce, .inl (cG, 121, .inl fc))]) hD hS hA [1, 2, 3] rfl
  refine vx_calli (vx_runV (As := [.long (lN a), .int x9]) (rest := [.int (nI 0), .ref out]) ⟨hx, hb, hml, hown, hts⟩ (c_X9_corrections (l := l) (D := D) (xo := xo) (gg := gg) (gr := gr) (ce := ce) (tr := tr) (sh := sh) (ar := ar) (ti := ti) (n1 := n1) (l1 := l1) (s2 := s2) (a2 := a2) (s3 := s3) (a3 := a3) (n2 := n2) (l2 := l2) (cS2 := cS2) (fk := fk) (m := m) (ki := ki) (ea := ea) (wa := wa) (pf := pf) (cn := cn) (dp := dp) (oc := oc) (ic := ic) (lf := lf) (pt := pt) (wd := wd) (n := n) (cG := cG) (fc := fc) (cS3 := cS3) (fr := fr) (z3 := z3) (a := a) (x9 := x9) (sz := s.heap.size) (hnd := (q_ndws (q_ndt (a' := [s3, a3, ce]) (b' := [xo, gg, gr, s2, a2]) (q_ndsw (q_ndg (l1 := [out, s3, a3, ce] ++ (rg ea n ++ rg wa n)) (l2 := [xo, gg, gr, s2, a2]) hD hnR hna (by rw [List.map_append, List.map_append, EW_fst, WW_fst]; rfl) rfl)) [1, 2, 3, 4, 5, 6, 7, 8] rfl rfl))) (hst := hst) (ha := ha) (hm := hm) (hf := hf) (hki := hki) (hg := hg) (hob := hob)) (cwV 2 hts gL_corrections_X9_corrections rfl rfl rfl (by decide +kernel) ⟨Nat.le_of_ble_eq_true rfl, Nat.le_of_ble_eq_true rfl⟩) ⟨qWx_blind, (va_recv hK hR (ci := 8) (q0 := 0) rfl rfl), (qWx_of (hR.sub (ws' := [(xo, .inr (8, [.ref gg, .ref tr, .ref ti, .ref s2, .ref s3, .ref n2])), (gg, .inr (1, [.ref gr])), (gr, .inr (2, [.ref ce])), (s2, .inr (4, [.ref a2, .int (nI m)])), (a2, .inl (cS2, 40, .inr (.inr (.inr (.inr fk)))))]) [0, 1, 2, 3, 4] rfl) (va_P.app (hP.sub (ws' := [(s3, .inr (4, [.ref a3, .int z3])), (a3, .inl (cS3, 40, .inr (.inr (.inr (.inr fr))))), (ce, .inl (cG, 121, .inl fc))]) [1, 2, 3] rfl) (q_right hP)) (hK.sub (tys' := [(cS3, .object "FuzzyFens$Entry"), (cG, .int), (cS2, .object "FuzzyFens$Entry")]) [1, 2, 3] rfl) hNw (qZ_at hZ hS (fun q h => hF q h)) hXt)⟩ rfl rfl hl.1 rfl (lv_room (Nat.le_of_ble_eq_true rfl)) dL_corrections_6 ⟨Nat.le_of_ble_eq_true rfl, Nat.le_of_ble_eq_true rfl⟩) hS (fun q _ h => hF q h) hF (fun q _ h => hF q h) (fun E9 ce9 q9 u9 t9 H9 locs9 ht9 hvm9 hpx9 hBX9 hz9 hk9 hS9 hc9 hv9 hcl9 => ?_) (fun r_1 u_5 t_4 H_2 locs_3 ht hvm hr_1 hB hz1 hk1 hS => ?_)
  · skip
    obtain ⟨hE9, hW9⟩ := hBX9
    replace hW9 : va_P D vwCl ([(s3, .inr (4, [.ref a3, .int z3])), (a3, .inl (cS3, 40, .inr (.inr (.inr (.inr fr))))), (ce, .inl (cG, 121, .inl fc))] ++ (EW ea wa pf cn dp oc ic lf pt n ++ WW wa wd n)) H9 := by rw [← ht9]; exact hW9
    obtain ⟨hP, hD⟩ := q_joinT (X := [(out, .inl (cO, 1, .inr (.inl fo))), (s3, .inr (4, [.ref a3, .int z3])), (a3, .inl (cS3, 40, .inr (.inr (.inr (.inr fr))))), (ce, .inl (cG, 121, .inl fc))]) (T := (EW ea wa pf cn dp oc ic lf pt n ++ WW wa wd n)) (cx := [(s3, .inr (4, [.ref a3, .int z3])), (a3, .inl (cS3, 40, .inr (.inr (.inr (.inr fr))))), (ce, .inl (cG, 121, .inl fc))]) (cx' := [(s3, .inr (4, [.ref a3, .int z3])), (a3, .inl (cS3, 40, .inr (.inr (.inr (.inr fr))))), (ce, .inl (cG, 121, .inl fc))]) (T' := (EW ea wa pf cn dp oc ic lf pt n ++ WW wa wd n)) (X' := [(out, .inl (cO, 1, .inr (.inl fo))), (s3, .inr (4, [.ref a3, .int z3])), (a3, .inl (cS3, 40, .inr (.inr (.inr (.inr fr))))), (ce, .inl (cG, 121, .inl fc))]) [1, 2, 3] hP hD rfl rfl (by simp only [List.map_append, EW_fst, WW_fst]) hk9 hW9 rfl
    have hS := hS9
    have hR := q_ro hR0 hna hS
    obtain ⟨rfl, hC9⟩ := hE9
    refine vx_catch (own := RL) (name := q_IA) (E := q_IA) (ce := ce9) (q := q9) hown [] ⟨0, 11, 14, 13⟩ [] (by rw [hta]; rfl) (fun z9 h9 => absurd h9 List.not_mem_nil) rfl (by decide) (hts (.classLink RL 13 "java/lang/IllegalArgumentException") (List.mem_of_getElem? (i := 1) rfl)) (va_Nw.use rfl (hXt.2.1 (q_IA, q_IA) (by decide))) hc9 hv9 hcl9 ?_
    refine W.eq (g2 := F0 mi9 14 ls [.ref q9]) rfl ?_
    refine lv_astore (lv' := [(5, .ref q9), (0, .ref xo), (1, .long (lN a)), (3, .int x9), (4, .ref out)]) hx hb dL_corrections_14 hl (by decide) rfl (fun ls hl => ?_)
    refine lv_iconst (v := nI 1) hx hb dL_corrections_16 (by decide) ?_
    refine W.widen (k := 2) (n := 12) (Nat.le_of_ble_eq_true rfl) (Nat.le_of_ble_eq_true rfl) ?_
    exact W.iret (v := nI 1) hx hb hr (fun t9 ht hW => ⟨⟨nI 1, (z3, fr, fc, pt, fo), rfl, (Or.inr (⟨rfl, hC9⟩)), by show va_P D vwCl _ t9.heap; rw [ht]; exact hP⟩, hS.F ht⟩) hS.2.2 dL_corrections_17
  skip
  obtain ⟨fr2_6, fc2_7, pt2_8⟩ := u_5
  dsimp only at hr_1 hB
  replace hB : va_P D vwCl ([(s3, .inr (4, [.ref a3, .int (nI (rkc wd oc ki a (kz x9) m))])), (a3, .inl (cS3, 40, .inr (.inr (.inr (.inr fr2_6))))), (ce, .inl (cG, 121, .inl fc2_7))] ++ (EW ea wa pf cn dp oc ic lf pt2_8 n ++ WW wa wd n)) H_2 := by rw [← ht]; exact hB
  obtain ⟨hP, hD⟩ := q_joinT (X := [(out, .inl (cO, 1, .inr (.inl fo))), (s3, .inr (4, [.ref a3, .int z3])), (a3, .inl (cS3, 40, .inr (.inr (.inr (.inr fr))))), (ce, .inl (cG, 121, .inl fc))]) (T := (EW ea wa pf cn dp oc ic lf pt n ++ WW wa wd n)) (cx := [(s3, .inr (4, [.ref a3, .int z3])), (a3, .inl (cS3, 40, .inr (.inr (.inr (.inr fr))))), (ce, .inl (cG, 121, .inl fc))]) (cx' := [(s3, .inr (4, [.ref a3, .int (nI (rkc wd oc ki a (kz x9) m))])), (a3, .inl (cS3, 40, .inr (.inr (.inr (.inr fr2_6))))), (ce, .inl (cG, 121, .inl fc2_7))]) (T' := (EW ea wa pf cn dp oc ic lf pt2_8 n ++ WW wa wd n)) (X' := [(out, .inl (cO, 1, .inr (.inl fo))), (s3, .inr (4, [.ref a3, .int (nI (rkc wd oc ki a (kz x9) m))])), (a3, .inl (cS3, 40, .inr (.inr (.inr (.inr fr2_6))))), (ce, .inl (cG, 121, .inl fc2_7))]) [1, 2, 3] hP hD rfl rfl (by simp only [List.map_append, EW_fst, WW_fst]) hk1 hB rfl
  have hR := q_ro hR0 hna hS
  obtain ⟨rfl, hF8⟩ := hr_1
  refine lv_i2l hx hb dL_corrections_9 rfl ?_
  refine va_last (D := D) hx hb hK hP hD hS 0 0 rfl rfl (vp_in_nI (n := 0) (N := 1) (by omega) (by decide)) dL_corrections_10 (fun H_9 locs_10 hP hD hS => ?_)
  rw [nI_clamp (n := 0) (by omega)] at hP hD
  have hP : va_P D vwCl ([(out, .inl (cO, 1, .inr (.inl (vp_updL fo 0 ((nI (rkc wd oc ki a (kz x9) m)).toInt64))))), (s3, .inr (4, [.ref a3, .int (nI (rkc wd oc ki a (kz x9) m))])), (a3, .inl (cS3, 40, .inr (.inr (.inr (.inr fr2_6))))), (ce, .inl (cG, 121, .inl fc2_7))] ++ (EW ea wa pf cn dp oc ic lf pt2_8 n ++ WW wa wd n)) H_9 := hP
  have hD : va_D A ([(out, .inl (cO, 1, .inr (.inl (vp_updL fo 0 ((nI (rkc wd oc ki a (kz x9) m)).toInt64))))), (s3, .inr (4, [.ref a3, .int (nI (rkc wd oc ki a (kz x9) m))])), (a3, .inl (cS3, 40, .inr (.inr (.inr (.inr fr2_6))))), (ce, .inl (cG, 121, .inl fc2_7))] ++ (EW ea wa pf cn dp oc ic lf pt2_8 n ++ WW wa wd n)) := hD
  have hR := q_ro hR0 hna hS
  refine lv_goto (tgt := 18) hx hb dL_corrections_11 (by decide) ?_
  refine lv_iconst (v := nI 0) hx hb dL_corrections_18 (by decide) ?_
  refine W.widen (k := 2) (n := 12) (Nat.le_of_ble_eq_true rfl) (Nat.le_of_ble_eq_true rfl) ?_
  exact W.iret (v := nI 0) hx hb hr (fun t9 ht hW => ⟨⟨nI 0, (nI (rkc wd oc ki a (kz x9) m), fr2_6, fc2_7, pt2_8, vp_updL fo 0 ((nI (rkc wd oc ki a (kz x9) m)).toInt64)), rfl, (Or.inl ⟨rfl, ⟨hF8, rfl⟩⟩), by show va_P D vwCl _ t9.heap; rw [ht]; exact hP⟩, hS.F ht⟩) hS.2.2 dL_corrections_19

set_option maxHeartbeats 4000000 in
set_option maxRecDepth 100000 in
/-- law: correction -/
theorem c_L_correction (l : Launch) (D : va_G) (sz : Nat) (xo : Nat) (gg : Nat) (gr : Nat) (ce : Nat) (tr : Nat) (sh : Nat) (ar : Nat) (ti : Nat) (n1 : Nat) (l1 : Nat) (s2 : Nat) (a2 : Nat) (s3 : Nat) (a3 : Nat) (n2 : Nat) (l2 : Nat) (cS2 : ClassId) (fk : Nat → Option Nat) (m : Nat) (ki : Nat → Nat) (ea : Nat → Nat) (wa : Nat → Nat) (pf : Nat → Option Nat) (cn : Nat → Nat) (dp : Nat → Nat) (oc : Nat → Nat) (ic : Nat → Int32) (lf : Nat → Int32) (pt : Nat → Int32) (wd : Nat → Nat) (n : Nat) (cG : ClassId) (fc : Nat → Int32) (cS3 : ClassId) (fr : Nat → Option Nat) (z3 : Int32) (a : Nat) (x9 : Int32) (y9 : Int32) (out : Nat) (cO : ClassId) (fo : Nat → Int64) (hst : l.stackTraces = false) (hnd : (([out, s3, a3, ce] ++ (rg ea n ++ rg wa n)) ++ [xo, gg, gr, s2, a2]).Nodup) (ha : a < 2 ^ 64) (hm : m ≤ 40) (hf : ∀ j, j < m → fk j = some (ea (ki j))) (hki : ∀ j, j < m → ki j < n) (hg : ∀ k, k < n → gw (wd k)) (hob : ∀ k, k < n → oc k < 2 ^ 31) : Met l yL_correction wsL_correction { frames := 8, cells := 3, slots := 18, locals := 166 } (va_Pc [.ref xo, .long (lN a), .int x9, .int y9, .ref out] (qWx D sz ([(xo, .inr (8, [.ref gg, .ref tr, .ref ti, .ref s2, .ref s3, .ref n2])), (gg, .inr (1, [.ref gr])), (gr, .inr (2, [.ref ce])), (s2, .inr (4, [.ref a2, .int (nI m)])), (a2, .inl (cS2, 40, .inr (.inr (.inr (.inr fk)))))]) ([(out, .inl (cO, 1, .inr (.inl fo))), (s3, .inr (4, [.ref a3, .int z3])), (a3, .inl (cS3, 40, .inr (.inr (.inr (.inr fr))))), (ce, .inl (cG, 121, .inl fc))] ++ (EW ea wa pf cn dp oc ic lf pt n ++ WW wa wd n)) [(cO, .long), (cS3, .object "FuzzyFens$Entry"), (cG, .int), (cS2, .object "FuzzyFens$Entry")])) (va_Qi (fun (rv : Int32) (uv : (Int32) × (Nat → Option Nat) × (Nat → Int32) × (Nat → Int32) × (Nat → Int64)) => ((rv = nI 0 ∧ ((gw a ∧ 0 ≤ x9 ∧ x9 ≤ nI 3)) ∧ (0 ≤ y9 ∧ y9 < nI (rkc wd oc ki a (kz x9) m)) ∧ uv.2.2.2.2 0 = lN (wd (rko wd oc ki a (kz x9) m (kz y9)))) ∨ (rv = nI 1 ∧ ¬ (gw a ∧ 0 ≤ x9 ∧ x9 ≤ nI 3)) ∨ (rv = nI 2 ∧ (gw a ∧ 0 ≤ x9 ∧ x9 ≤ nI 3) ∧ ¬ (0 ≤ y9 ∧ y9 < nI (rkc wd oc ki a (kz x9) m))))) (fun (uv : (Int32) × (Nat → Option Nat) × (Nat → Int32) × (Nat → Int32) × (Nat → Int64)) (tv : State) => va_P D vwCl ([(out, .inl (cO, 1, .inr (.inl uv.2.2.2.2))), (s3, .inr (4, [.ref a3, .int uv.1])), (a3, .inl (cS3, 40, .inr (.inr (.inr (.inr uv.2.1))))), (ce, .inl (cG, 121, .inl uv.2.2.1))] ++ (EW ea wa pf cn dp oc ic lf uv.2.2.2.1 n ++ WW wa wd n)) tv.heap) (va_A ([(out, .inl (cO, 1, .inr (.inl fo))), (s3, .inr (4, [.ref a3, .int z3])), (a3, .inl (cS3, 40, .inr (.inr (.inr (.inr fr))))), (ce, .inl (cG, 121, .inl fc))] ++ (EW ea wa pf cn dp oc ic lf pt n ++ WW wa wd n)) sz)) 3 18 (va_A ([(out, .inl (cO, 1, .inr (.inl fo))), (s3, .inr (4, [.ref a3, .int z3])), (a3, .inl (cS3, 40, .inr (.inr (.inr (.inr fr))))), (ce, .inl (cG, 121, .inl fc))] ++ (EW ea wa pf cn dp oc ic lf pt n ++ WW wa wd n)) sz) := by
  refine va_MetW (cc := cL_correction) (maxL := 7) (ret := (some .int)) (hh := [(0, 12, 15, 13), (0, 12, 19, 28)]) (by decide) rfl ?_
  intro pM eM s mi9 argsM belowM methM cM sM B hml hv
  obtain ⟨rfl, hsz, hR0, hP, hK, hNw, hZ, hXt⟩ := hv
  have hx := B.exec
  have hb := B.bytes
  have hr := B.returns
  have hts := atoms_spec (ws := wsL_correction) B.pre
  have hta : cM.exceptionTable.toList = tableOf [(0, 12, 15, 13), (0, 12, 19, 28)] := vx_table (x := yL_correction) B (hts (.codeWith yL_correction cL_correction 7 (some .int) [(0, 12, 15, 13), (0, 12, 19, 28)]) (List.mem_of_getElem? (i := 0) rfl))
  have hown : s.vm.findClass RL = some mi9.cls := findClass_of_methodNamed B.named
  have hlocks := B.notSynchronized
  subst hsz
  have hna := q_na (RW := ([(out, .inl (cO, 1, .inr (.inl fo))), (s3, .inr (4, [.ref a3, .int z3])), (a3, .inl (cS3, 40, .inr (.inr (.inr (.inr fr))))), (ce, .inl (cG, 121, .inl fc))] ++ (EW ea wa pf cn dp oc ic lf pt n ++ WW wa wd n))) (RO := [(xo, .inr (8, [.ref gg, .ref tr, .ref ti, .ref s2, .ref s3, .ref n2])), (gg, .inr (1, [.ref gr])), (gr, .inr (2, [.ref ce])), (s2, .inr (4, [.ref a2, .int (nI m)])), (a2, .inl (cS2, 40, .inr (.inr (.inr (.inr fk)))))]) hnd (by rw [List.map_append, List.map_append, EW_fst, WW_fst]; rfl) rfl hR0
  have hD := q_D (RW := ([(out, .inl (cO, 1, .inr (.inl fo))), (s3, .inr (4, [.ref a3, .int z3])), (a3, .inl (cS3, 40, .inr (.inr (.inr (.inr fr))))), (ce, .inl (cG, 121, .inl fc))] ++ (EW ea wa pf cn dp oc ic lf pt n ++ WW wa wd n))) (sz := s.heap.size) hnd (by rw [List.map_append, List.map_append, EW_fst, WW_fst]; rfl)
  have hnR : (([(xo, .inr (8, [.ref gg, .ref tr, .ref ti, .ref s2, .ref s3, .ref n2])), (gg, .inr (1, [.ref gr])), (gr, .inr (2, [.ref ce])), (s2, .inr (4, [.ref a2, .int (nI m)])), (a2, .inl (cS2, 40, .inr (.inr (.inr (.inr fk)))))] : va_W).map (·.1)).Nodup := by rw [show ([(xo, .inr (8, [.ref gg, .ref tr, .ref ti, .ref s2, .ref s3, .ref n2])), (gg, .inr (1, [.ref gr])), (gr, .inr (2, [.ref ce])), (s2, .inr (4, [.ref a2, .int (nI m)])), (a2, .inl (cS2, 40, .inr (.inr (.inr (.inr fk)))))] : va_W).map (·.1) = [xo, gg, gr, s2, a2] from rfl]; exact (List.nodup_append.mp hnd).2.1
  have hA : ∀ q : Nat, s.heap.size ≤ q → va_A ([(out, .inl (cO, 1, .inr (.inl fo))), (s3, .inr (4, [.ref a3, .int z3])), (a3, .inl (cS3, 40, .inr (.inr (.inr (.inr fr))))), (ce, .inl (cG, 121, .inl fc))] ++ (EW ea wa pf cn dp oc ic lf pt n ++ WW wa wd n)) s.heap.size q := fun q h => Or.inr h
  generalize hAe : va_A ([(out, .inl (cO, 1, .inr (.inl fo))), (s3, .inr (4, [.ref a3, .int z3])), (a3, .inl (cS3, 40, .inr (.inr (.inr (.inr fr))))), (ce, .inl (cG, 121, .inl fc))] ++ (EW ea wa pf cn dp oc ic lf pt n ++ WW wa wd n)) s.heap.size = A at hna hD hA hZ ⊢
  have hS : va_S A s.heap s.heap [] := va_S.rf
  have hR := hR0
  have hP : va_P D vwCl ([(out, .inl (cO, 1, .inr (.inl fo))), (s3, .inr (4, [.ref a3, .int z3])), (a3, .inl (cS3, 40, .inr (.inr (.inr (.inr fr))))), (ce, .inl (cG, 121, .inl fc))] ++ (EW ea wa pf cn dp oc ic lf pt n ++ WW wa wd n)) s.heap := hP
  have hl := lv_entry ([.ref xo, .long (lN a), .int x9, .int y9, .ref out]) (n := 7) (Nat.le_of_ble_eq_true rfl)
  rw [lg_entry_eq]
  generalize (lg_sl ([.ref xo, .long (lN a), .int x9, .int y9, .ref out]) ++ List.replicate (7 - (lg_sl ([.ref xo, .long (lN a), .int x9, .int y9, .ref out])).length) Slot.unset).toArray = ls at hl ⊢
  have hl : lv_has ls 7 [(0, .ref xo), (1, .long (lN a)), (3, .int x9), (4, .int y9), (5, .ref out)] := hl
  refine lv_aload hx hb dL_correction_0 (lv_at hl 4 rfl) ?_
  refine lv_iconst (v := nI 0) hx hb dL_correction_2 (by decide) ?_
  refine lv_aload_n hx hb dL_correction_3 rfl (lv_at hl 0 rfl) ?_
  refine lv_lload_n hx hb dL_correction_4 rfl (lv_at hl 1 rfl) ?_
  refine lv_iload_n hx hb dL_correction_5 rfl (lv_at hl 2 rfl) ?_
  refine lv_iload hx hb dL_correction_6 (lv_at hl 3 rfl) ?_
  have hF := q_freeT (X := [(out, .inl (cO, 1, .inr (.inl fo))), (s3, .inr (4, [.ref a3, .int z3])), (a3, .inl (cS3, 40, .inr (.inr (.inr (.inr fr))))), (ce, .inl (cG, 121, .inl fc))]) (T := (EW ea wa pf cn dp oc ic lf pt n ++ WW wa wd n)) (cx := [(s3, .inr (4, [.ref a3, .int z3])), (a3, .inl (cS3, 40, .inr (.inr (.inr (.inr fr))))), (ce, .inl (cG, 121, .inl fc))]) hD hS hA [1, 2, 3] rfl
  refine vx_calll (vx_runV (As := [.long (lN a), .int x9, .int y9]) (rest := [.int (nI 0), .ref out]) ⟨hx, hb, hml, hown, hts⟩ (c_X9_correction (l := l) (D := D) (xo := xo) (gg := gg) (gr := gr) (ce := ce) (tr := tr) (sh := sh) (ar := ar) (ti := ti) (n1 := n1) (l1 := l1) (s2 := s2) (a2 := a2) (s3 := s3) (a3 := a3) (n2 := n2) (l2 := l2) (cS2 := cS2) (fk := fk) (m := m) (ki := ki) (ea := ea) (wa := wa) (pf := pf) (cn := cn) (dp := dp) (oc := oc) (ic := ic) (lf := lf) (pt := pt) (wd := wd) (n := n) (cG := cG) (fc := fc) (cS3 := cS3) (fr := fr) (z3 := z3) (a := a) (x9 := x9) (y9 := y9) (sz := s.heap.size) (hnd := (q_ndws (q_ndt (a' := [s3, a3, ce]) (b' := [xo, gg, gr, s2, a2]) (q_ndsw (q_ndg (l1 := [out, s3, a3, ce] ++ (rg ea n ++ rg wa n)) (l2 := [xo, gg, gr, s2, a2]) hD hnR hna (by rw [List.map_append, List.map_append, EW_fst, WW_fst]; rfl) rfl)) [1, 2, 3, 4, 5, 6, 7, 8] rfl rfl))) (hst := hst) (ha := ha) (hm := hm) (hf := hf) (hki := hki) (hg := hg) (hob := hob)) (cwV 3 hts gL_correction_X9_correction rfl rfl rfl (by decide +kernel) ⟨Nat.le_of_ble_eq_true rfl, Nat.le_of_ble_eq_true rfl⟩) ⟨qWx_blind, (va_recv hK hR (ci := 8) (q0 := 0) rfl rfl), (qWx_of (hR.sub (ws' := [(xo, .inr (8, [.ref gg, .ref tr, .ref ti, .ref s2, .ref s3, .ref n2])), (gg, .inr (1, [.ref gr])), (gr, .inr (2, [.ref ce])), (s2, .inr (4, [.ref a2, .int (nI m)])), (a2, .inl (cS2, 40, .inr (.inr (.inr (.inr fk)))))]) [0, 1, 2, 3, 4] rfl) (va_P.app (hP.sub (ws' := [(s3, .inr (4, [.ref a3, .int z3])), (a3, .inl (cS3, 40, .inr (.inr (.inr (.inr fr))))), (ce, .inl (cG, 121, .inl fc))]) [1, 2, 3] rfl) (q_right hP)) (hK.sub (tys' := [(cS3, .object "FuzzyFens$Entry"), (cG, .int), (cS2, .object "FuzzyFens$Entry")]) [1, 2, 3] rfl) hNw (qZ_at hZ hS (fun q h => hF q h)) hXt)⟩ rfl rfl hl.1 rfl (lv_room (Nat.le_of_ble_eq_true rfl)) dL_correction_8 ⟨Nat.le_of_ble_eq_true rfl, Nat.le_of_ble_eq_true rfl⟩) hS (fun q _ h => hF q h) hF (fun q _ h => hF q h) (fun E9 ce9 q9 u9 t9 H9 locs9 ht9 hvm9 hpx9 hBX9 hz9 hk9 hS9 hc9 hv9 hcl9 => ?_) (fun r_1 u_5 t_4 H_2 locs_3 ht hvm hr_1 hB hz1 hk1 hS => ?_)
  · skip
    obtain ⟨r3_6, fr3_7, fc3_8, pt3_9⟩ := u9
    dsimp only at hBX9
    obtain ⟨hE9, hW9⟩ := hBX9
    replace hW9 : va_P D vwCl ([(s3, .inr (4, [.ref a3, .int r3_6])), (a3, .inl (cS3, 40, .inr (.inr (.inr (.inr fr3_7))))), (ce, .inl (cG, 121, .inl fc3_8))] ++ (EW ea wa pf cn dp oc ic lf pt3_9 n ++ WW wa wd n)) H9 := by rw [← ht9]; exact hW9
    obtain ⟨hP, hD⟩ := q_joinT (X := [(out, .inl (cO, 1, .inr (.inl fo))), (s3, .inr (4, [.ref a3, .int z3])), (a3, .inl (cS3, 40, .inr (.inr (.inr (.inr fr))))), (ce, .inl (cG, 121, .inl fc))]) (T := (EW ea wa pf cn dp oc ic lf pt n ++ WW wa wd n)) (cx := [(s3, .inr (4, [.ref a3, .int z3])), (a3, .inl (cS3, 40, .inr (.inr (.inr (.inr fr))))), (ce, .inl (cG, 121, .inl fc))]) (cx' := [(s3, .inr (4, [.ref a3, .int r3_6])), (a3, .inl (cS3, 40, .inr (.inr (.inr (.inr fr3_7))))), (ce, .inl (cG, 121, .inl fc3_8))]) (T' := (EW ea wa pf cn dp oc ic lf pt3_9 n ++ WW wa wd n)) (X' := [(out, .inl (cO, 1, .inr (.inl fo))), (s3, .inr (4, [.ref a3, .int r3_6])), (a3, .inl (cS3, 40, .inr (.inr (.inr (.inr fr3_7))))), (ce, .inl (cG, 121, .inl fc3_8))]) [1, 2, 3] hP hD rfl rfl (by simp only [List.map_append, EW_fst, WW_fst]) hk9 hW9 rfl
    have hS := hS9
    have hR := q_ro hR0 hna hS
    rcases hE9 with ⟨rfl, hC9⟩ | ⟨rfl, hC9⟩
    · skip
      refine vx_catch (own := RL) (name := q_IA) (E := q_IA) (ce := ce9) (q := q9) hown [] ⟨0, 12, 15, 13⟩ [⟨0, 12, 19, 28⟩] (by rw [hta]; rfl) (fun z9 h9 => absurd h9 List.not_mem_nil) rfl (by decide) (hts (.classLink RL 13 "java/lang/IllegalArgumentException") (List.mem_of_getElem? (i := 1) rfl)) (va_Nw.use rfl (hXt.2.1 (q_IA, q_IA) (by decide))) hc9 hv9 hcl9 ?_
      refine W.eq (g2 := F0 mi9 15 ls [.ref q9]) rfl ?_
      refine lv_astore (lv' := [(6, .ref q9), (0, .ref xo), (1, .long (lN a)), (3, .int x9), (4, .int y9), (5, .ref out)]) hx hb dL_correction_15 hl (by decide) rfl (fun ls hl => ?_)
      refine lv_iconst (v := nI 1) hx hb dL_correction_17 (by decide) ?_
      refine W.widen (k := 3) (n := 18) (Nat.le_of_ble_eq_true rfl) (Nat.le_of_ble_eq_true rfl) ?_
      exact W.iret (v := nI 1) hx hb hr (fun t9 ht hW => ⟨⟨nI 1, (r3_6, fr3_7, fc3_8, pt3_9, fo), rfl, (Or.inr (Or.inl ⟨rfl, hC9⟩)), by show va_P D vwCl _ t9.heap; rw [ht]; exact hP⟩, hS.F ht⟩) hS.2.2 dL_correction_18
    · skip
      refine vx_catch (own := RL) (name := q_IO) (E := q_IO) (ce := ce9) (q := q9) hown [⟨0, 12, 15, 13⟩] ⟨0, 12, 19, 28⟩ [] (by rw [hta]; rfl) (fun z9 h9 => by cases List.mem_singleton.mp h9; exact Or.inr ⟨by decide, q_IA, (hts (.classLink RL 13 "java/lang/IllegalArgumentException") (List.mem_of_getElem? (i := 1) rfl)), hXt.2.2.2.2.2⟩) rfl (by decide) (hts (.classLink RL 28 "java/lang/IndexOutOfBoundsException") (List.mem_of_getElem? (i := 2) rfl)) (va_Nw.use rfl (hXt.2.1 (q_IO, q_IO) (by decide))) hc9 hv9 hcl9 ?_
      refine W.eq (g2 := F0 mi9 19 ls [.ref q9]) rfl ?_
      refine lv_astore (lv' := [(6, .ref q9), (0, .ref xo), (1, .long (lN a)), (3, .int x9), (4, .int y9), (5, .ref out)]) hx hb dL_correction_19 hl (by decide) rfl (fun ls hl => ?_)
      refine lv_iconst (v := nI 2) hx hb dL_correction_21 (by decide) ?_
      refine W.widen (k := 3) (n := 18) (Nat.le_of_ble_eq_true rfl) (Nat.le_of_ble_eq_true rfl) ?_
      exact W.iret (v := nI 2) hx hb hr (fun t9 ht hW => ⟨⟨nI 2, (r3_6, fr3_7, fc3_8, pt3_9, fo), rfl, (Or.inr (Or.inr (⟨rfl, hC9⟩))), by show va_P D vwCl _ t9.heap; rw [ht]; exact hP⟩, hS.F ht⟩) hS.2.2 dL_correction_22
  skip
  obtain ⟨fr2_10, fc2_11, pt2_12⟩ := u_5
  dsimp only at hr_1 hB
  replace hB : va_P D vwCl ([(s3, .inr (4, [.ref a3, .int (nI (rkc wd oc ki a (kz x9) m))])), (a3, .inl (cS3, 40, .inr (.inr (.inr (.inr fr2_10))))), (ce, .inl (cG, 121, .inl fc2_11))] ++ (EW ea wa pf cn dp oc ic lf pt2_12 n ++ WW wa wd n)) H_2 := by rw [← ht]; exact hB
  obtain ⟨hP, hD⟩ := q_joinT (X := [(out, .inl (cO, 1, .inr (.inl fo))), (s3, .inr (4, [.ref a3, .int z3])), (a3, .inl (cS3, 40, .inr (.inr (.inr (.inr fr))))), (ce, .inl (cG, 121, .inl fc))]) (T := (EW ea wa pf cn dp oc ic lf pt n ++ WW wa wd n)) (cx := [(s3, .inr (4, [.ref a3, .int z3])), (a3, .inl (cS3, 40, .inr (.inr (.inr (.inr fr))))), (ce, .inl (cG, 121, .inl fc))]) (cx' := [(s3, .inr (4, [.ref a3, .int (nI (rkc wd oc ki a (kz x9) m))])), (a3, .inl (cS3, 40, .inr (.inr (.inr (.inr fr2_10))))), (ce, .inl (cG, 121, .inl fc2_11))]) (T' := (EW ea wa pf cn dp oc ic lf pt2_12 n ++ WW wa wd n)) (X' := [(out, .inl (cO, 1, .inr (.inl fo))), (s3, .inr (4, [.ref a3, .int (nI (rkc wd oc ki a (kz x9) m))])), (a3, .inl (cS3, 40, .inr (.inr (.inr (.inr fr2_10))))), (ce, .inl (cG, 121, .inl fc2_11))]) [1, 2, 3] hP hD rfl rfl (by simp only [List.map_append, EW_fst, WW_fst]) hk1 hB rfl
  have hR := q_ro hR0 hna hS
  obtain ⟨rfl, hF80, hF81⟩ := hr_1
  refine va_last (D := D) hx hb hK hP hD hS 0 0 rfl rfl (vp_in_nI (n := 0) (N := 1) (by omega) (by decide)) dL_correction_11 (fun H_13 locs_14 hP hD hS => ?_)
  rw [nI_clamp (n := 0) (by omega)] at hP hD
  have hP : va_P D vwCl ([(out, .inl (cO, 1, .inr (.inl (vp_updL fo 0 (lN (wd (rko wd oc ki a (kz x9) m (kz y9)))))))), (s3, .inr (4, [.ref a3, .int (nI (rkc wd oc ki a (kz x9) m))])), (a3, .inl (cS3, 40, .inr (.inr (.inr (.inr fr2_10))))), (ce, .inl (cG, 121, .inl fc2_11))] ++ (EW ea wa pf cn dp oc ic lf pt2_12 n ++ WW wa wd n)) H_13 := hP
  have hD : va_D A ([(out, .inl (cO, 1, .inr (.inl (vp_updL fo 0 (lN (wd (rko wd oc ki a (kz x9) m (kz y9)))))))), (s3, .inr (4, [.ref a3, .int (nI (rkc wd oc ki a (kz x9) m))])), (a3, .inl (cS3, 40, .inr (.inr (.inr (.inr fr2_10))))), (ce, .inl (cG, 121, .inl fc2_11))] ++ (EW ea wa pf cn dp oc ic lf pt2_12 n ++ WW wa wd n)) := hD
  have hR := q_ro hR0 hna hS
  refine lv_goto (tgt := 23) hx hb dL_correction_12 (by decide) ?_
  refine lv_iconst (v := nI 0) hx hb dL_correction_23 (by decide) ?_
  refine W.widen (k := 3) (n := 18) (Nat.le_of_ble_eq_true rfl) (Nat.le_of_ble_eq_true rfl) ?_
  exact W.iret (v := nI 0) hx hb hr (fun t9 ht hW => ⟨⟨nI 0, (nI (rkc wd oc ki a (kz x9) m), fr2_10, fc2_11, pt2_12, vp_updL fo 0 (lN (wd (rko wd oc ki a (kz x9) m (kz y9))))), rfl, (Or.inl ⟨rfl, ⟨hF80, hF81, rfl⟩⟩), by show va_P D vwCl _ t9.heap; rw [ht]; exact hP⟩, hS.F ht⟩) hS.2.2 dL_correction_24

set_option maxHeartbeats 4000000 in
set_option maxRecDepth 100000 in
/-- law: forget -/
theorem c_L_forget (l : Launch) (D : va_G) (sz : Nat) (xo : Nat) (gg : Nat) (gr : Nat) (ce : Nat) (tr : Nat) (sh : Nat) (ar : Nat) (ti : Nat) (n1 : Nat) (l1 : Nat) (s2 : Nat) (a2 : Nat) (s3 : Nat) (a3 : Nat) (n2 : Nat) (l2 : Nat) (cS : ClassId) (f : Nat → Option Nat) (cS2 : ClassId) (fk : Nat → Option Nat) (m : Nat) (ki : Nat → Nat) (ea : Nat → Nat) (wa : Nat → Nat) (pf : Nat → Option Nat) (cn : Nat → Nat) (dp : Nat → Nat) (oc : Nat → Nat) (ic : Nat → Int32) (lf : Nat → Int32) (pt : Nat → Int32) (wd : Nat → Nat) (n : Nat) (a : Nat) (out : Nat) (cO : ClassId) (fo : Nat → Int64) (hst : l.stackTraces = false) (hnd : (([out, s2, a2] ++ (rg ea n ++ rg wa n)) ++ [xo, tr, sh, ar]).Nodup) (ha : a < 2 ^ 64) (hfe : ∀ j, j < n → f j = some (ea j)) (hn40 : n ≤ 40) (hg : ∀ k, k < n → gw (wd k)) (hm : m ≤ 40) (hf : ∀ j, j < m → fk j = some (ea (ki j))) (hki : ∀ j, j < m → ki j < n) (hob : ∀ k, k < n → oc k ≤ 1000000) (hinj : ∀ i j, i < n → j < n → ea i = ea j → i = j) (hkinj : ∀ i j, i < m → j < m → ki i = ki j → i = j) (hkn : ∀ i, i < n → 0 < oc i → ∃ p, p < m ∧ ki p = i) : Met l yL_forget wsL_forget { frames := 8, cells := 2, slots := 12, locals := 127 } (va_Pc [.ref xo, .long (lN a), .ref out] (qWx D sz ([(xo, .inr (8, [.ref gg, .ref tr, .ref ti, .ref s2, .ref s3, .ref n2])), (tr, .inr (5, [.ref sh])), (sh, .inr (4, [.ref ar, .int (nI n)])), (ar, .inl (cS, 40, .inr (.inr (.inr (.inr f)))))]) ([(out, .inl (cO, 1, .inr (.inl fo))), (s2, .inr (4, [.ref a2, .int (nI m)])), (a2, .inl (cS2, 40, .inr (.inr (.inr (.inr fk)))))] ++ (EW ea wa pf cn dp oc ic lf pt n ++ WW wa wd n)) [(cO, .long), (cS2, .object "FuzzyFens$Entry"), (cS, .object "FuzzyFens$Entry")])) (va_Qi (fun (rv : Int32) (uv : (Nat) × (Nat → Option Nat) × (Nat → Nat) × (Nat → Int64)) => ((rv = nI 0 ∧ gw a ∧ (∃ i p, ffi (fun k => decide (wd k = a)) n = some i ∧ 0 < oc i ∧ uv.2.2.2 0 = (nI (oc i)).toInt64 ∧ p < m ∧ ki p = i ∧ uv.1 = m - 1 ∧ uv.2.2.1 = va_up oc i 0 ∧ ∀ j, j < m - 1 → uv.2.1 j = some (ea (remF ki p j)))) ∨ (rv = nI 1 ∧ ¬ gw a ∧ uv.1 = m ∧ uv.2.1 = fk ∧ uv.2.2.1 = oc) ∨ (rv = nI 2 ∧ (gw a ∧ ∀ i, ffi (fun k => decide (wd k = a)) n = some i → oc i = 0) ∧ uv.1 = m ∧ uv.2.1 = fk ∧ uv.2.2.1 = oc))) (fun (uv : (Nat) × (Nat → Option Nat) × (Nat → Nat) × (Nat → Int64)) (tv : State) => va_P D vwCl ([(out, .inl (cO, 1, .inr (.inl uv.2.2.2))), (s2, .inr (4, [.ref a2, .int (nI uv.1)])), (a2, .inl (cS2, 40, .inr (.inr (.inr (.inr uv.2.1)))))] ++ (EW ea wa pf cn dp uv.2.2.1 ic lf pt n ++ WW wa wd n)) tv.heap) (va_A ([(out, .inl (cO, 1, .inr (.inl fo))), (s2, .inr (4, [.ref a2, .int (nI m)])), (a2, .inl (cS2, 40, .inr (.inr (.inr (.inr fk)))))] ++ (EW ea wa pf cn dp oc ic lf pt n ++ WW wa wd n)) sz)) 2 12 (va_A ([(out, .inl (cO, 1, .inr (.inl fo))), (s2, .inr (4, [.ref a2, .int (nI m)])), (a2, .inl (cS2, 40, .inr (.inr (.inr (.inr fk)))))] ++ (EW ea wa pf cn dp oc ic lf pt n ++ WW wa wd n)) sz) := by
  refine va_MetW (cc := cL_forget) (maxL := 5) (ret := (some .int)) (hh := [(0, 9, 12, 13), (0, 9, 16, 15)]) (by decide) rfl ?_
  intro pM eM s mi9 argsM belowM methM cM sM B hml hv
  obtain ⟨rfl, hsz, hR0, hP, hK, hNw, hZ, hXt⟩ := hv
  have hx := B.exec
  have hb := B.bytes
  have hr := B.returns
  have hts := atoms_spec (ws := wsL_forget) B.pre
  have hta : cM.exceptionTable.toList = tableOf [(0, 9, 12, 13), (0, 9, 16, 15)] := vx_table (x := yL_forget) B (hts (.codeWith yL_forget cL_forget 5 (some .int) [(0, 9, 12, 13), (0, 9, 16, 15)]) (List.mem_of_getElem? (i := 0) rfl))
  have hown : s.vm.findClass RL = some mi9.cls := findClass_of_methodNamed B.named
  have hlocks := B.notSynchronized
  subst hsz
  have hna := q_na (RW := ([(out, .inl (cO, 1, .inr (.inl fo))), (s2, .inr (4, [.ref a2, .int (nI m)])), (a2, .inl (cS2, 40, .inr (.inr (.inr (.inr fk)))))] ++ (EW ea wa pf cn dp oc ic lf pt n ++ WW wa wd n))) (RO := [(xo, .inr (8, [.ref gg, .ref tr, .ref ti, .ref s2, .ref s3, .ref n2])), (tr, .inr (5, [.ref sh])), (sh, .inr (4, [.ref ar, .int (nI n)])), (ar, .inl (cS, 40, .inr (.inr (.inr (.inr f)))))]) hnd (by rw [List.map_append, List.map_append, EW_fst, WW_fst]; rfl) rfl hR0
  have hD := q_D (RW := ([(out, .inl (cO, 1, .inr (.inl fo))), (s2, .inr (4, [.ref a2, .int (nI m)])), (a2, .inl (cS2, 40, .inr (.inr (.inr (.inr fk)))))] ++ (EW ea wa pf cn dp oc ic lf pt n ++ WW wa wd n))) (sz := s.heap.size) hnd (by rw [List.map_append, List.map_append, EW_fst, WW_fst]; rfl)
  have hnR : (([(xo, .inr (8, [.ref gg, .ref tr, .ref ti, .ref s2, .ref s3, .ref n2])), (tr, .inr (5, [.ref sh])), (sh, .inr (4, [.ref ar, .int (nI n)])), (ar, .inl (cS, 40, .inr (.inr (.inr (.inr f)))))] : va_W).map (·.1)).Nodup := by rw [show ([(xo, .inr (8, [.ref gg, .ref tr, .ref ti, .ref s2, .ref s3, .ref n2])), (tr, .inr (5, [.ref sh])), (sh, .inr (4, [.ref ar, .int (nI n)])), (ar, .inl (cS, 40, .inr (.inr (.inr (.inr f)))))] : va_W).map (·.1) = [xo, tr, sh, ar] from rfl]; exact (List.nodup_append.mp hnd).2.1
  have hA : ∀ q : Nat, s.heap.size ≤ q → va_A ([(out, .inl (cO, 1, .inr (.inl fo))), (s2, .inr (4, [.ref a2, .int (nI m)])), (a2, .inl (cS2, 40, .inr (.inr (.inr (.inr fk)))))] ++ (EW ea wa pf cn dp oc ic lf pt n ++ WW wa wd n)) s.heap.size q := fun q h => Or.inr h
  generalize hAe : va_A ([(out, .inl (cO, 1, .inr (.inl fo))), (s2, .inr (4, [.ref a2, .int (nI m)])), (a2, .inl (cS2, 40, .inr (.inr (.inr (.inr fk)))))] ++ (EW ea wa pf cn dp oc ic lf pt n ++ WW wa wd n)) s.heap.size = A at hna hD hA hZ ⊢
  have hS : va_S A s.heap s.heap [] := va_S.rf
  have hR := hR0
  have hP : va_P D vwCl ([(out, .inl (cO, 1, .inr (.inl fo))), (s2, .inr (4, [.ref a2, .int (nI m)])), (a2, .inl (cS2, 40, .inr (.inr (.inr (.inr fk)))))] ++ (EW ea wa pf cn dp oc ic lf pt n ++ WW wa wd n)) s.heap := hP
  have hl := lv_entry ([.ref xo, .long (lN a), .ref out]) (n := 5) (Nat.le_of_ble_eq_true rfl)
  rw [lg_entry_eq]
  generalize (lg_sl ([.ref xo, .long (lN a), .ref out]) ++ List.replicate (5 - (lg_sl ([.ref xo, .long (lN a), .ref out])).length) Slot.unset).toArray = ls at hl ⊢
  have hl : lv_has ls 5 [(0, .ref xo), (1, .long (lN a)), (3, .ref out)] := hl
  refine lv_aload_n hx hb dL_forget_0 rfl (lv_at hl 2 rfl) ?_
  refine lv_iconst (v := nI 0) hx hb dL_forget_1 (by decide) ?_
  refine lv_aload_n hx hb dL_forget_2 rfl (lv_at hl 0 rfl) ?_
  refine lv_lload_n hx hb dL_forget_3 rfl (lv_at hl 1 rfl) ?_
  have hF := q_freeT (X := [(out, .inl (cO, 1, .inr (.inl fo))), (s2, .inr (4, [.ref a2, .int (nI m)])), (a2, .inl (cS2, 40, .inr (.inr (.inr (.inr fk)))))]) (T := (EW ea wa pf cn dp oc ic lf pt n ++ WW wa wd n)) (cx := [(s2, .inr (4, [.ref a2, .int (nI m)])), (a2, .inl (cS2, 40, .inr (.inr (.inr (.inr fk)))))]) hD hS hA [1, 2] rfl
  refine vx_calli (vx_runV (As := [.long (lN a)]) (rest := [.int (nI 0), .ref out]) ⟨hx, hb, hml, hown, hts⟩ (c_X9_forget (l := l) (D := D) (xo := xo) (gg := gg) (gr := gr) (ce := ce) (tr := tr) (sh := sh) (ar := ar) (ti := ti) (n1 := n1) (l1 := l1) (s2 := s2) (a2 := a2) (s3 := s3) (a3 := a3) (n2 := n2) (l2 := l2) (cS := cS) (f := f) (cS2 := cS2) (fk := fk) (m := m) (ki := ki) (ea := ea) (wa := wa) (pf := pf) (cn := cn) (dp := dp) (oc := oc) (ic := ic) (lf := lf) (pt := pt) (wd := wd) (n := n) (a := a) (sz := s.heap.size) (hnd := (q_ndws (q_ndt (a' := [s2, a2]) (b' := [xo, tr, sh, ar]) (q_ndsw (q_ndg (l1 := [out, s2, a2] ++ (rg ea n ++ rg wa n)) (l2 := [xo, tr, sh, ar]) hD hnR hna (by rw [List.map_append, List.map_append, EW_fst, WW_fst]; rfl) rfl)) [1, 2, 3, 4, 5, 6] rfl rfl))) (hst := hst) (ha := ha) (hfe := hfe) (hn40 := hn40) (hg := hg) (hm := hm) (hf := hf) (hki := hki) (hob := hob) (hinj := hinj) (hkinj := hkinj) (hkn := hkn)) (cwV 1 hts gL_forget_X9_forget rfl rfl rfl (by decide +kernel) ⟨Nat.le_of_ble_eq_true rfl, Nat.le_of_ble_eq_true rfl⟩) ⟨qWx_blind, (va_recv hK hR (ci := 8) (q0 := 0) rfl rfl), (qWx_of (hR.sub (ws' := [(xo, .inr (8, [.ref gg, .ref tr, .ref ti, .ref s2, .ref s3, .ref n2])), (tr, .inr (5, [.ref sh])), (sh, .inr (4, [.ref ar, .int (nI n)])), (ar, .inl (cS, 40, .inr (.inr (.inr (.inr f)))))]) [0, 1, 2, 3] rfl) (va_P.app (hP.sub (ws' := [(s2, .inr (4, [.ref a2, .int (nI m)])), (a2, .inl (cS2, 40, .inr (.inr (.inr (.inr fk)))))]) [1, 2] rfl) (q_right hP)) (hK.sub (tys' := [(cS2, .object "FuzzyFens$Entry"), (cS, .object "FuzzyFens$Entry")]) [1, 2] rfl) hNw (qZ_at hZ hS (fun q h => hF q h)) hXt)⟩ rfl rfl hl.1 rfl (lv_room (Nat.le_of_ble_eq_true rfl)) dL_forget_4 ⟨Nat.le_of_ble_eq_true rfl, Nat.le_of_ble_eq_true rfl⟩) hS (fun q _ h => hF q h) hF (fun q _ h => hF q h) (fun E9 ce9 q9 u9 t9 H9 locs9 ht9 hvm9 hpx9 hBX9 hz9 hk9 hS9 hc9 hv9 hcl9 => ?_) (fun r_1 u_5 t_4 H_2 locs_3 ht hvm hr_1 hB hz1 hk1 hS => ?_)
  · skip
    obtain ⟨hE9, hW9⟩ := hBX9
    replace hW9 : va_P D vwCl ([(s2, .inr (4, [.ref a2, .int (nI m)])), (a2, .inl (cS2, 40, .inr (.inr (.inr (.inr fk)))))] ++ (EW ea wa pf cn dp oc ic lf pt n ++ WW wa wd n)) H9 := by rw [← ht9]; exact hW9
    obtain ⟨hP, hD⟩ := q_joinT (X := [(out, .inl (cO, 1, .inr (.inl fo))), (s2, .inr (4, [.ref a2, .int (nI m)])), (a2, .inl (cS2, 40, .inr (.inr (.inr (.inr fk)))))]) (T := (EW ea wa pf cn dp oc ic lf pt n ++ WW wa wd n)) (cx := [(s2, .inr (4, [.ref a2, .int (nI m)])), (a2, .inl (cS2, 40, .inr (.inr (.inr (.inr fk)))))]) (cx' := [(s2, .inr (4, [.ref a2, .int (nI m)])), (a2, .inl (cS2, 40, .inr (.inr (.inr (.inr fk)))))]) (T' := (EW ea wa pf cn dp oc ic lf pt n ++ WW wa wd n)) (X' := [(out, .inl (cO, 1, .inr (.inl fo))), (s2, .inr (4, [.ref a2, .int (nI m)])), (a2, .inl (cS2, 40, .inr (.inr (.inr (.inr fk)))))]) [1, 2] hP hD rfl rfl (by simp only [List.map_append, EW_fst, WW_fst]) hk9 hW9 rfl
    have hS := hS9
    have hR := q_ro hR0 hna hS
    rcases hE9 with ⟨rfl, hC9⟩ | ⟨rfl, hC9⟩
    · skip
      refine vx_catch (own := RL) (name := q_IA) (E := q_IA) (ce := ce9) (q := q9) hown [] ⟨0, 9, 12, 13⟩ [⟨0, 9, 16, 15⟩] (by rw [hta]; rfl) (fun z9 h9 => absurd h9 List.not_mem_nil) rfl (by decide) (hts (.classLink RL 13 "java/lang/IllegalArgumentException") (List.mem_of_getElem? (i := 1) rfl)) (va_Nw.use rfl (hXt.2.1 (q_IA, q_IA) (by decide))) hc9 hv9 hcl9 ?_
      refine W.eq (g2 := F0 mi9 12 ls [.ref q9]) rfl ?_
      refine lv_astore (lv' := [(4, .ref q9), (0, .ref xo), (1, .long (lN a)), (3, .ref out)]) hx hb dL_forget_12 hl (by decide) rfl (fun ls hl => ?_)
      refine lv_iconst (v := nI 1) hx hb dL_forget_14 (by decide) ?_
      refine W.widen (k := 2) (n := 12) (Nat.le_of_ble_eq_true rfl) (Nat.le_of_ble_eq_true rfl) ?_
      exact W.iret (v := nI 1) hx hb hr (fun t9 ht hW => ⟨⟨nI 1, (m, fk, oc, fo), rfl, (Or.inr (Or.inl ⟨rfl, hC9, rfl, rfl, rfl⟩)), by show va_P D vwCl _ t9.heap; rw [ht]; exact hP⟩, hS.F ht⟩) hS.2.2 dL_forget_15
    · skip
      refine vx_catch (own := RL) (name := q_IS) (E := q_IS) (ce := ce9) (q := q9) hown [⟨0, 9, 12, 13⟩] ⟨0, 9, 16, 15⟩ [] (by rw [hta]; rfl) (fun z9 h9 => by cases List.mem_singleton.mp h9; exact Or.inr ⟨by decide, q_IA, (hts (.classLink RL 13 "java/lang/IllegalArgumentException") (List.mem_of_getElem? (i := 1) rfl)), hXt.2.2.2.2.1⟩) rfl (by decide) (hts (.classLink RL 15 "java/lang/IllegalStateException") (List.mem_of_getElem? (i := 2) rfl)) (va_Nw.use rfl (hXt.2.1 (q_IS, q_IS) (by decide))) hc9 hv9 hcl9 ?_
      refine W.eq (g2 := F0 mi9 16 ls [.ref q9]) rfl ?_
      refine lv_astore (lv' := [(4, .ref q9), (0, .ref xo), (1, .long (lN a)), (3, .ref out)]) hx hb dL_forget_16 hl (by decide) rfl (fun ls hl => ?_)
      refine lv_iconst (v := nI 2) hx hb dL_forget_18 (by decide) ?_
      refine W.widen (k := 2) (n := 12) (Nat.le_of_ble_eq_true rfl) (Nat.le_of_ble_eq_true rfl) ?_
      exact W.iret (v := nI 2) hx hb hr (fun t9 ht hW => ⟨⟨nI 2, (m, fk, oc, fo), rfl, (Or.inr (Or.inr (⟨rfl, hC9, rfl, rfl, rfl⟩))), by show va_P D vwCl _ t9.heap; rw [ht]; exact hP⟩, hS.F ht⟩) hS.2.2 dL_forget_19
  skip
  obtain ⟨fk2_6, oc2_7⟩ := u_5
  dsimp only at hr_1 hB
  replace hB : va_P D vwCl ([(s2, .inr (4, [.ref a2, .int (nI (m - 1))])), (a2, .inl (cS2, 40, .inr (.inr (.inr (.inr fk2_6)))))] ++ (EW ea wa pf cn dp oc2_7 ic lf pt n ++ WW wa wd n)) H_2 := by rw [← ht]; exact hB
  obtain ⟨hP, hD⟩ := q_joinT (X := [(out, .inl (cO, 1, .inr (.inl fo))), (s2, .inr (4, [.ref a2, .int (nI m)])), (a2, .inl (cS2, 40, .inr (.inr (.inr (.inr fk)))))]) (T := (EW ea wa pf cn dp oc ic lf pt n ++ WW wa wd n)) (cx := [(s2, .inr (4, [.ref a2, .int (nI m)])), (a2, .inl (cS2, 40, .inr (.inr (.inr (.inr fk)))))]) (cx' := [(s2, .inr (4, [.ref a2, .int (nI (m - 1))])), (a2, .inl (cS2, 40, .inr (.inr (.inr (.inr fk2_6)))))]) (T' := (EW ea wa pf cn dp oc2_7 ic lf pt n ++ WW wa wd n)) (X' := [(out, .inl (cO, 1, .inr (.inl fo))), (s2, .inr (4, [.ref a2, .int (nI (m - 1))])), (a2, .inl (cS2, 40, .inr (.inr (.inr (.inr fk2_6)))))]) [1, 2] hP hD rfl rfl (by simp only [List.map_append, EW_fst, WW_fst]) hk1 hB rfl
  have hR := q_ro hR0 hna hS
  obtain ⟨hF80, hF81⟩ := hr_1
  refine lv_i2l hx hb dL_forget_7 rfl ?_
  refine va_last (D := D) hx hb hK hP hD hS 0 0 rfl rfl (vp_in_nI (n := 0) (N := 1) (by omega) (by decide)) dL_forget_8 (fun H_8 locs_9 hP hD hS => ?_)
  rw [nI_clamp (n := 0) (by omega)] at hP hD
  have hP : va_P D vwCl ([(out, .inl (cO, 1, .inr (.inl (vp_updL fo 0 ((r_1).toInt64))))), (s2, .inr (4, [.ref a2, .int (nI (m - 1))])), (a2, .inl (cS2, 40, .inr (.inr (.inr (.inr fk2_6)))))] ++ (EW ea wa pf cn dp oc2_7 ic lf pt n ++ WW wa wd n)) H_8 := hP
  have hD : va_D A ([(out, .inl (cO, 1, .inr (.inl (vp_updL fo 0 ((r_1).toInt64))))), (s2, .inr (4, [.ref a2, .int (nI (m - 1))])), (a2, .inl (cS2, 40, .inr (.inr (.inr (.inr fk2_6)))))] ++ (EW ea wa pf cn dp oc2_7 ic lf pt n ++ WW wa wd n)) := hD
  have hR := q_ro hR0 hna hS
  refine lv_goto (tgt := 20) hx hb dL_forget_9 (by decide) ?_
  refine lv_iconst (v := nI 0) hx hb dL_forget_20 (by decide) ?_
  obtain ⟨i8, p8, g1, g2, g3, g4, g5, g6, g7⟩ := hF81
  refine W.widen (k := 2) (n := 12) (Nat.le_of_ble_eq_true rfl) (Nat.le_of_ble_eq_true rfl) ?_
  exact W.iret (v := nI 0) hx hb hr (fun t9 ht hW => ⟨⟨nI 0, (m - 1, fk2_6, oc2_7, vp_updL fo 0 ((r_1).toInt64)), rfl, (Or.inl ⟨rfl, hF80, i8, p8, g1, g2, (by rw [g3]; rfl), g4, g5, rfl, g6, g7⟩), by show va_P D vwCl _ t9.heap; rw [ht]; exact hP⟩, hS.F ht⟩) hS.2.2 dL_forget_21

set_option maxHeartbeats 4000000 in
set_option maxRecDepth 100000 in
/-- law: add -/
theorem c_L_add (l : Launch) (D : va_G) (sz : Nat) (xo : Nat) (gg : Nat) (gr : Nat) (ce : Nat) (tr : Nat) (sh : Nat) (ar : Nat) (ti : Nat) (n1 : Nat) (l1 : Nat) (s2 : Nat) (a2 : Nat) (s3 : Nat) (a3 : Nat) (n2 : Nat) (l2 : Nat) (cS : ClassId) (f : Nat → Option Nat) (cS2 : ClassId) (fk : Nat → Option Nat) (m : Nat) (ki : Nat → Nat) (cG : ClassId) (fc : Nat → Int32) (ea : Nat → Nat) (wa : Nat → Nat) (pf : Nat → Option Nat) (cn : Nat → Nat) (dp : Nat → Nat) (oc : Nat → Nat) (ic : Nat → Int32) (lf : Nat → Int32) (pt : Nat → Int32) (wd : Nat → Nat) (n : Nat) (pi : Nat → Option Nat) (a : Nat) (x9 : Int32) (out : Nat) (cO : ClassId) (fo : Nat → Int64) (hst : l.stackTraces = false) (hnd : (([out, sh, ar, s2, a2, ce] ++ (rg ea n ++ rg wa n)) ++ [xo, gg, gr, tr]).Nodup) (ha : a < 2 ^ 64) (hfe : ∀ j, j < n → f j = some (ea j)) (hn40 : n ≤ 40) (hg : ∀ k, k < n → gw (wd k)) (hm : m ≤ 40) (hf : ∀ j, j < m → fk j = some (ea (ki j))) (hki : ∀ j, j < m → ki j < n) (hob : ∀ k, k < n → oc k ≤ 1000000) (hinj : ∀ i j, i < n → j < n → ea i = ea j → i = j) (hpi : ∀ k, k < n → pf k = (pi k).map ea) (hpn : ∀ k i, k < n → pi k = some i → i < k) (hcb : ∀ k, k < n → cn k ≤ 20) (hmn : m ≤ n) (hmz : ∀ i, i < n → oc i = 0 → m < n) : Met l yL_add wsL_add { frames := 8, cells := 3, slots := 20, locals := 145 } (va_Pc [.ref xo, .long (lN a), .int x9, .ref out] (qWx D sz ([(xo, .inr (8, [.ref gg, .ref tr, .ref ti, .ref s2, .ref s3, .ref n2])), (gg, .inr (1, [.ref gr])), (gr, .inr (2, [.ref ce])), (tr, .inr (5, [.ref sh]))]) ([(out, .inl (cO, 1, .inr (.inl fo))), (sh, .inr (4, [.ref ar, .int (nI n)])), (ar, .inl (cS, 40, .inr (.inr (.inr (.inr f))))), (s2, .inr (4, [.ref a2, .int (nI m)])), (a2, .inl (cS2, 40, .inr (.inr (.inr (.inr fk))))), (ce, .inl (cG, 121, .inl fc))] ++ (EW ea wa pf cn dp oc ic lf pt n ++ WW wa wd n)) [(cO, .long), (cS, .object "FuzzyFens$Entry"), (cS2, .object "FuzzyFens$Entry"), (cG, .int)])) (va_Qi (fun (rv : Int32) (uv : (Nat) × (Nat → Option Nat) × (Nat) × (Nat → Option Nat) × (Nat → Nat) × (Nat → Int32) × (Nat → Nat) × (Nat → Nat) × (Nat → Option Nat) × (Nat → Nat) × (Nat → Nat) × (Nat → Nat) × (Nat → Int32) × (Nat → Int32) × (Nat → Int32) × (Nat → Nat) × (Nat → Int64)) => ((rv = nI 0 ∧ (gw a ∧ nI 1 ≤ x9 ∧ x9 ≤ nI 1000) ∧ (∃ r8 : Int32, uv.2.2.2.2.2.2.2.2.2.2.2.2.2.2.2.2 0 = (r8).toInt64 ∧ (((∃ i, ffi (fun k => decide (wd k = a)) n = some i ∧ oc i + kz x9 ≤ 1000000 ∧ r8 = nI (oc i + kz x9) ∧ uv.1 = n ∧ uv.2.1 = f ∧ uv.2.2.2.2.2.2.1 = ea ∧ uv.2.2.2.2.2.2.2.2.1 = pf ∧ uv.2.2.2.2.2.2.2.2.2.1 = cn ∧ uv.2.2.2.2.2.2.2.2.2.2.1 = dp ∧ uv.2.2.2.2.2.2.2.2.2.2.2.2.2.2.2.1 = wd ∧ uv.2.2.2.2.2.2.2.2.2.2.2.1 = va_up oc i (oc i + kz x9) ∧ ((0 < oc i ∧ uv.2.2.1 = m ∧ uv.2.2.2.1 = fk ∧ uv.2.2.2.2.1 = ki) ∨ (oc i = 0 ∧ uv.2.2.1 = m + 1 ∧ uv.2.2.2.2.1 = insF ki (cnt (fun j => decide (al (wd (ki j)) < al (wd i))) m) i ∧ ∀ j, j < m + 1 → uv.2.2.2.1 j = some (ea (uv.2.2.2.2.1 j))))) ∨ (ffi (fun k => decide (wd k = a)) n = none ∧ n < 40 ∧ r8 = nI (kz x9) ∧ uv.1 = n + 1 ∧ uv.2.2.1 = m + 1 ∧ (∀ k, k < n → uv.2.2.2.2.2.2.1 k = ea k ∧ uv.2.2.2.2.2.2.2.2.1 k = pf k ∧ uv.2.2.2.2.2.2.2.2.2.1 k = cn k ∧ uv.2.2.2.2.2.2.2.2.2.2.1 k = dp k ∧ uv.2.2.2.2.2.2.2.2.2.2.2.1 k = oc k ∧ uv.2.2.2.2.2.2.2.2.2.2.2.2.2.2.2.1 k = wd k) ∧ uv.2.2.2.2.2.2.2.2.2.2.2.1 n = kz x9 ∧ uv.2.2.2.2.2.2.2.2.2.2.2.2.2.2.2.1 n = a ∧ ((n = 0 ∧ uv.2.2.2.2.2.2.2.2.1 n = none ∧ uv.2.2.2.2.2.2.2.2.2.1 n = 0 ∧ uv.2.2.2.2.2.2.2.2.2.2.1 n = 0) ∨ (0 < n ∧ uv.2.2.2.2.2.2.2.2.1 n = some (ea (plw (chf wd pi cn a n) n 0)) ∧ uv.2.2.2.2.2.2.2.2.2.1 n = dst wd a (plw (chf wd pi cn a n) n 0) ∧ uv.2.2.2.2.2.2.2.2.2.2.1 n = dp (plw (chf wd pi cn a n) n 0) + 1)) ∧ (∀ j, j < n + 1 → uv.2.1 j = some (uv.2.2.2.2.2.2.1 j)) ∧ uv.2.2.2.2.1 = insF ki (cnt (fun j => decide (al (uv.2.2.2.2.2.2.2.2.2.2.2.2.2.2.2.1 (ki j)) < al (uv.2.2.2.2.2.2.2.2.2.2.2.2.2.2.2.1 n))) m) n ∧ ∀ j, j < m + 1 → uv.2.2.2.1 j = some (uv.2.2.2.2.2.2.1 (uv.2.2.2.2.1 j))))))) ∨ (rv = nI 1 ∧ ¬ (gw a ∧ nI 1 ≤ x9 ∧ x9 ≤ nI 1000) ∧ uv.1 = n ∧ uv.2.1 = f ∧ uv.2.2.1 = m ∧ uv.2.2.2.1 = fk ∧ uv.2.2.2.2.1 = ki ∧ uv.2.2.2.2.2.2.1 = ea ∧ uv.2.2.2.2.2.2.2.1 = wa ∧ uv.2.2.2.2.2.2.2.2.1 = pf ∧ uv.2.2.2.2.2.2.2.2.2.1 = cn ∧ uv.2.2.2.2.2.2.2.2.2.2.1 = dp ∧ uv.2.2.2.2.2.2.2.2.2.2.2.1 = oc ∧ uv.2.2.2.2.2.2.2.2.2.2.2.2.2.2.2.1 = wd) ∨ (rv = nI 2 ∧ ((gw a ∧ nI 1 ≤ x9 ∧ x9 ≤ nI 1000) ∧ ((ffi (fun k => decide (wd k = a)) n = none ∧ n = 40) ∨ ∃ i, ffi (fun k => decide (wd k = a)) n = some i ∧ 1000000 < oc i + kz x9)) ∧ uv.1 = n ∧ uv.2.1 = f ∧ uv.2.2.1 = m ∧ uv.2.2.2.1 = fk ∧ uv.2.2.2.2.1 = ki ∧ uv.2.2.2.2.2.2.1 = ea ∧ uv.2.2.2.2.2.2.2.1 = wa ∧ uv.2.2.2.2.2.2.2.2.1 = pf ∧ uv.2.2.2.2.2.2.2.2.2.1 = cn ∧ uv.2.2.2.2.2.2.2.2.2.2.1 = dp ∧ uv.2.2.2.2.2.2.2.2.2.2.2.1 = oc ∧ uv.2.2.2.2.2.2.2.2.2.2.2.2.2.2.2.1 = wd))) (fun (uv : (Nat) × (Nat → Option Nat) × (Nat) × (Nat → Option Nat) × (Nat → Nat) × (Nat → Int32) × (Nat → Nat) × (Nat → Nat) × (Nat → Option Nat) × (Nat → Nat) × (Nat → Nat) × (Nat → Nat) × (Nat → Int32) × (Nat → Int32) × (Nat → Int32) × (Nat → Nat) × (Nat → Int64)) (tv : State) => va_P D vwCl ([(out, .inl (cO, 1, .inr (.inl uv.2.2.2.2.2.2.2.2.2.2.2.2.2.2.2.2))), (sh, .inr (4, [.ref ar, .int (nI uv.1)])), (ar, .inl (cS, 40, .inr (.inr (.inr (.inr uv.2.1))))), (s2, .inr (4, [.ref a2, .int (nI uv.2.2.1)])), (a2, .inl (cS2, 40, .inr (.inr (.inr (.inr uv.2.2.2.1))))), (ce, .inl (cG, 121, .inl uv.2.2.2.2.2.1))] ++ (EW uv.2.2.2.2.2.2.1 uv.2.2.2.2.2.2.2.1 uv.2.2.2.2.2.2.2.2.1 uv.2.2.2.2.2.2.2.2.2.1 uv.2.2.2.2.2.2.2.2.2.2.1 uv.2.2.2.2.2.2.2.2.2.2.2.1 uv.2.2.2.2.2.2.2.2.2.2.2.2.1 uv.2.2.2.2.2.2.2.2.2.2.2.2.2.1 uv.2.2.2.2.2.2.2.2.2.2.2.2.2.2.1 uv.1 ++ WW uv.2.2.2.2.2.2.2.1 uv.2.2.2.2.2.2.2.2.2.2.2.2.2.2.2.1 uv.1)) tv.heap ∧ va_D (va_A ([(out, .inl (cO, 1, .inr (.inl fo))), (sh, .inr (4, [.ref ar, .int (nI n)])), (ar, .inl (cS, 40, .inr (.inr (.inr (.inr f))))), (s2, .inr (4, [.ref a2, .int (nI m)])), (a2, .inl (cS2, 40, .inr (.inr (.inr (.inr fk))))), (ce, .inl (cG, 121, .inl fc))] ++ (EW ea wa pf cn dp oc ic lf pt n ++ WW wa wd n)) sz) ([(out, .inl (cO, 1, .inr (.inl uv.2.2.2.2.2.2.2.2.2.2.2.2.2.2.2.2))), (sh, .inr (4, [.ref ar, .int (nI uv.1)])), (ar, .inl (cS, 40, .inr (.inr (.inr (.inr uv.2.1))))), (s2, .inr (4, [.ref a2, .int (nI uv.2.2.1)])), (a2, .inl (cS2, 40, .inr (.inr (.inr (.inr uv.2.2.2.1))))), (ce, .inl (cG, 121, .inl uv.2.2.2.2.2.1))] ++ (EW uv.2.2.2.2.2.2.1 uv.2.2.2.2.2.2.2.1 uv.2.2.2.2.2.2.2.2.1 uv.2.2.2.2.2.2.2.2.2.1 uv.2.2.2.2.2.2.2.2.2.2.1 uv.2.2.2.2.2.2.2.2.2.2.2.1 uv.2.2.2.2.2.2.2.2.2.2.2.2.1 uv.2.2.2.2.2.2.2.2.2.2.2.2.2.1 uv.2.2.2.2.2.2.2.2.2.2.2.2.2.2.1 uv.1 ++ WW uv.2.2.2.2.2.2.2.1 uv.2.2.2.2.2.2.2.2.2.2.2.2.2.2.2.1 uv.1))) (va_A ([(out, .inl (cO, 1, .inr (.inl fo))), (sh, .inr (4, [.ref ar, .int (nI n)])), (ar, .inl (cS, 40, .inr (.inr (.inr (.inr f))))), (s2, .inr (4, [.ref a2, .int (nI m)])), (a2, .inl (cS2, 40, .inr (.inr (.inr (.inr fk))))), (ce, .inl (cG, 121, .inl fc))] ++ (EW ea wa pf cn dp oc ic lf pt n ++ WW wa wd n)) sz)) 3 20 (va_A ([(out, .inl (cO, 1, .inr (.inl fo))), (sh, .inr (4, [.ref ar, .int (nI n)])), (ar, .inl (cS, 40, .inr (.inr (.inr (.inr f))))), (s2, .inr (4, [.ref a2, .int (nI m)])), (a2, .inl (cS2, 40, .inr (.inr (.inr (.inr fk))))), (ce, .inl (cG, 121, .inl fc))] ++ (EW ea wa pf cn dp oc ic lf pt n ++ WW wa wd n)) sz) := by
  refine va_MetW (cc := cL_add) (maxL := 6) (ret := (some .int)) (hh := [(0, 11, 14, 13), (0, 11, 18, 15)]) (by decide) rfl ?_
  intro pM eM s mi9 argsM belowM methM cM sM B hml hv
  obtain ⟨rfl, hsz, hR0, hP, hK, hNw, hZ, hXt⟩ := hv
  have hx := B.exec
  have hb := B.bytes
  have hr := B.returns
  have hts := atoms_spec (ws := wsL_add) B.pre
  have hta : cM.exceptionTable.toList = tableOf [(0, 11, 14, 13), (0, 11, 18, 15)] := vx_table (x := yL_add) B (hts (.codeWith yL_add cL_add 6 (some .int) [(0, 11, 14, 13), (0, 11, 18, 15)]) (List.mem_of_getElem? (i := 0) rfl))
  have hown : s.vm.findClass RL = some mi9.cls := findClass_of_methodNamed B.named
  have hlocks := B.notSynchronized
  subst hsz
  have hna := q_na (RW := ([(out, .inl (cO, 1, .inr (.inl fo))), (sh, .inr (4, [.ref ar, .int (nI n)])), (ar, .inl (cS, 40, .inr (.inr (.inr (.inr f))))), (s2, .inr (4, [.ref a2, .int (nI m)])), (a2, .inl (cS2, 40, .inr (.inr (.inr (.inr fk))))), (ce, .inl (cG, 121, .inl fc))] ++ (EW ea wa pf cn dp oc ic lf pt n ++ WW wa wd n))) (RO := [(xo, .inr (8, [.ref gg, .ref tr, .ref ti, .ref s2, .ref s3, .ref n2])), (gg, .inr (1, [.ref gr])), (gr, .inr (2, [.ref ce])), (tr, .inr (5, [.ref sh]))]) hnd (by rw [List.map_append, List.map_append, EW_fst, WW_fst]; rfl) rfl hR0
  have hD := q_D (RW := ([(out, .inl (cO, 1, .inr (.inl fo))), (sh, .inr (4, [.ref ar, .int (nI n)])), (ar, .inl (cS, 40, .inr (.inr (.inr (.inr f))))), (s2, .inr (4, [.ref a2, .int (nI m)])), (a2, .inl (cS2, 40, .inr (.inr (.inr (.inr fk))))), (ce, .inl (cG, 121, .inl fc))] ++ (EW ea wa pf cn dp oc ic lf pt n ++ WW wa wd n))) (sz := s.heap.size) hnd (by rw [List.map_append, List.map_append, EW_fst, WW_fst]; rfl)
  have hnR : (([(xo, .inr (8, [.ref gg, .ref tr, .ref ti, .ref s2, .ref s3, .ref n2])), (gg, .inr (1, [.ref gr])), (gr, .inr (2, [.ref ce])), (tr, .inr (5, [.ref sh]))] : va_W).map (·.1)).Nodup := by rw [show ([(xo, .inr (8, [.ref gg, .ref tr, .ref ti, .ref s2, .ref s3, .ref n2])), (gg, .inr (1, [.ref gr])), (gr, .inr (2, [.ref ce])), (tr, .inr (5, [.ref sh]))] : va_W).map (·.1) = [xo, gg, gr, tr] from rfl]; exact (List.nodup_append.mp hnd).2.1
  have hA : ∀ q : Nat, s.heap.size ≤ q → va_A ([(out, .inl (cO, 1, .inr (.inl fo))), (sh, .inr (4, [.ref ar, .int (nI n)])), (ar, .inl (cS, 40, .inr (.inr (.inr (.inr f))))), (s2, .inr (4, [.ref a2, .int (nI m)])), (a2, .inl (cS2, 40, .inr (.inr (.inr (.inr fk))))), (ce, .inl (cG, 121, .inl fc))] ++ (EW ea wa pf cn dp oc ic lf pt n ++ WW wa wd n)) s.heap.size q := fun q h => Or.inr h
  generalize hAe : va_A ([(out, .inl (cO, 1, .inr (.inl fo))), (sh, .inr (4, [.ref ar, .int (nI n)])), (ar, .inl (cS, 40, .inr (.inr (.inr (.inr f))))), (s2, .inr (4, [.ref a2, .int (nI m)])), (a2, .inl (cS2, 40, .inr (.inr (.inr (.inr fk))))), (ce, .inl (cG, 121, .inl fc))] ++ (EW ea wa pf cn dp oc ic lf pt n ++ WW wa wd n)) s.heap.size = A at hna hD hA hZ ⊢
  have hS : va_S A s.heap s.heap [] := va_S.rf
  have hR := hR0
  have hP : va_P D vwCl ([(out, .inl (cO, 1, .inr (.inl fo))), (sh, .inr (4, [.ref ar, .int (nI n)])), (ar, .inl (cS, 40, .inr (.inr (.inr (.inr f))))), (s2, .inr (4, [.ref a2, .int (nI m)])), (a2, .inl (cS2, 40, .inr (.inr (.inr (.inr fk))))), (ce, .inl (cG, 121, .inl fc))] ++ (EW ea wa pf cn dp oc ic lf pt n ++ WW wa wd n)) s.heap := hP
  have hl := lv_entry ([.ref xo, .long (lN a), .int x9, .ref out]) (n := 6) (Nat.le_of_ble_eq_true rfl)
  rw [lg_entry_eq]
  generalize (lg_sl ([.ref xo, .long (lN a), .int x9, .ref out]) ++ List.replicate (6 - (lg_sl ([.ref xo, .long (lN a), .int x9, .ref out])).length) Slot.unset).toArray = ls at hl ⊢
  have hl : lv_has ls 6 [(0, .ref xo), (1, .long (lN a)), (3, .int x9), (4, .ref out)] := hl
  refine lv_aload hx hb dL_add_0 (lv_at hl 3 rfl) ?_
  refine lv_iconst (v := nI 0) hx hb dL_add_2 (by decide) ?_
  refine lv_aload_n hx hb dL_add_3 rfl (lv_at hl 0 rfl) ?_
  refine lv_lload_n hx hb dL_add_4 rfl (lv_at hl 1 rfl) ?_
  refine lv_iload_n hx hb dL_add_5 rfl (lv_at hl 2 rfl) ?_
  have hF := q_freeT (X := [(out, .inl (cO, 1, .inr (.inl fo))), (sh, .inr (4, [.ref ar, .int (nI n)])), (ar, .inl (cS, 40, .inr (.inr (.inr (.inr f))))), (s2, .inr (4, [.ref a2, .int (nI m)])), (a2, .inl (cS2, 40, .inr (.inr (.inr (.inr fk))))), (ce, .inl (cG, 121, .inl fc))]) (T := (EW ea wa pf cn dp oc ic lf pt n ++ WW wa wd n)) (cx := [(sh, .inr (4, [.ref ar, .int (nI n)])), (ar, .inl (cS, 40, .inr (.inr (.inr (.inr f))))), (s2, .inr (4, [.ref a2, .int (nI m)])), (a2, .inl (cS2, 40, .inr (.inr (.inr (.inr fk))))), (ce, .inl (cG, 121, .inl fc))]) hD hS hA [1, 2, 3, 4, 5] rfl
  refine vx_calli (vx_runV (As := [.long (lN a), .int x9]) (rest := [.int (nI 0), .ref out]) ⟨hx, hb, hml, hown, hts⟩ (c_X9_add_g (l := l) (D := D) (xo := xo) (gg := gg) (gr := gr) (ce := ce) (tr := tr) (sh := sh) (ar := ar) (ti := ti) (n1 := n1) (l1 := l1) (s2 := s2) (a2 := a2) (s3 := s3) (a3 := a3) (n2 := n2) (l2 := l2) (cS := cS) (f := f) (cS2 := cS2) (fk := fk) (m := m) (ki := ki) (cG := cG) (fc := fc) (ea := ea) (wa := wa) (pf := pf) (cn := cn) (dp := dp) (oc := oc) (ic := ic) (lf := lf) (pt := pt) (wd := wd) (n := n) (pi := pi) (a := a) (x9 := x9) (sz := s.heap.size) (hnd := (q_ndws (q_ndt (a' := [sh, ar, s2, a2, ce]) (b' := [xo, gg, gr, tr]) (q_ndsw (q_ndg (l1 := [out, sh, ar, s2, a2, ce] ++ (rg ea n ++ rg wa n)) (l2 := [xo, gg, gr, tr]) hD hnR hna (by rw [List.map_append, List.map_append, EW_fst, WW_fst]; rfl) rfl)) [1, 2, 3, 4, 5, 6, 7, 8, 9] rfl rfl))) (hst := hst) (ha := ha) (hfe := hfe) (hn40 := hn40) (hg := hg) (hm := hm) (hf := hf) (hki := hki) (hob := hob) (hinj := hinj) (hpi := hpi) (hpn := hpn) (hcb := hcb) (hmn := hmn) (hmz := hmz)) (cwV 2 hts gL_add_X9_add rfl rfl rfl (by decide +kernel) ⟨Nat.le_of_ble_eq_true rfl, Nat.le_of_ble_eq_true rfl⟩) ⟨qWx_blind, (va_recv hK hR (ci := 8) (q0 := 0) rfl rfl), (qWx_of (hR.sub (ws' := [(xo, .inr (8, [.ref gg, .ref tr, .ref ti, .ref s2, .ref s3, .ref n2])), (gg, .inr (1, [.ref gr])), (gr, .inr (2, [.ref ce])), (tr, .inr (5, [.ref sh]))]) [0, 1, 2, 3] rfl) (va_P.app (hP.sub (ws' := [(sh, .inr (4, [.ref ar, .int (nI n)])), (ar, .inl (cS, 40, .inr (.inr (.inr (.inr f))))), (s2, .inr (4, [.ref a2, .int (nI m)])), (a2, .inl (cS2, 40, .inr (.inr (.inr (.inr fk))))), (ce, .inl (cG, 121, .inl fc))]) [1, 2, 3, 4, 5] rfl) (q_right hP)) (hK.sub (tys' := [(cS, .object "FuzzyFens$Entry"), (cS2, .object "FuzzyFens$Entry"), (cG, .int)]) [1, 2, 3] rfl) hNw (qZ_at hZ hS (fun q h => hF q h)) hXt)⟩ rfl rfl hl.1 rfl (lv_room (Nat.le_of_ble_eq_true rfl)) dL_add_6 ⟨Nat.le_of_ble_eq_true rfl, Nat.le_of_ble_eq_true rfl⟩) hS (fun q _ h => hF q h) hF (fun q _ h => hF q h) (fun E9 ce9 q9 u9 t9 H9 locs9 ht9 hvm9 hpx9 hBX9 hz9 hk9 hS9 hc9 hv9 hcl9 => ?_) (fun r8 u_5 t_4 H_2 locs_3 ht hvm hr8 hB hz1 hk1 hS => ?_)
  · skip
    obtain ⟨hE9, hW9⟩ := hBX9
    replace hW9 : va_P D vwCl ([(sh, .inr (4, [.ref ar, .int (nI n)])), (ar, .inl (cS, 40, .inr (.inr (.inr (.inr f))))), (s2, .inr (4, [.ref a2, .int (nI m)])), (a2, .inl (cS2, 40, .inr (.inr (.inr (.inr fk))))), (ce, .inl (cG, 121, .inl fc))] ++ (EW ea wa pf cn dp oc ic lf pt n ++ WW wa wd n)) H9 := by rw [← ht9]; exact hW9
    obtain ⟨hP, hD⟩ := q_joinT (X := [(out, .inl (cO, 1, .inr (.inl fo))), (sh, .inr (4, [.ref ar, .int (nI n)])), (ar, .inl (cS, 40, .inr (.inr (.inr (.inr f))))), (s2, .inr (4, [.ref a2, .int (nI m)])), (a2, .inl (cS2, 40, .inr (.inr (.inr (.inr fk))))), (ce, .inl (cG, 121, .inl fc))]) (T := (EW ea wa pf cn dp oc ic lf pt n ++ WW wa wd n)) (cx := [(sh, .inr (4, [.ref ar, .int (nI n)])), (ar, .inl (cS, 40, .inr (.inr (.inr (.inr f))))), (s2, .inr (4, [.ref a2, .int (nI m)])), (a2, .inl (cS2, 40, .inr (.inr (.inr (.inr fk))))), (ce, .inl (cG, 121, .inl fc))]) (cx' := [(sh, .inr (4, [.ref ar, .int (nI n)])), (ar, .inl (cS, 40, .inr (.inr (.inr (.inr f))))), (s2, .inr (4, [.ref a2, .int (nI m)])), (a2, .inl (cS2, 40, .inr (.inr (.inr (.inr fk))))), (ce, .inl (cG, 121, .inl fc))]) (T' := (EW ea wa pf cn dp oc ic lf pt n ++ WW wa wd n)) (X' := [(out, .inl (cO, 1, .inr (.inl fo))), (sh, .inr (4, [.ref ar, .int (nI n)])), (ar, .inl (cS, 40, .inr (.inr (.inr (.inr f))))), (s2, .inr (4, [.ref a2, .int (nI m)])), (a2, .inl (cS2, 40, .inr (.inr (.inr (.inr fk))))), (ce, .inl (cG, 121, .inl fc))]) [1, 2, 3, 4, 5] hP hD rfl rfl (by simp only [List.map_append, EW_fst, WW_fst]) hk9 hW9 rfl
    have hS := hS9
    have hR := q_ro hR0 hna hS
    rcases hE9 with ⟨rfl, hC9⟩ | ⟨rfl, hC9⟩
    · skip
      refine vx_catch (own := RL) (name := q_IA) (E := q_IA) (ce := ce9) (q := q9) hown [] ⟨0, 11, 14, 13⟩ [⟨0, 11, 18, 15⟩] (by rw [hta]; rfl) (fun z9 h9 => absurd h9 List.not_mem_nil) rfl (by decide) (hts (.classLink RL 13 "java/lang/IllegalArgumentException") (List.mem_of_getElem? (i := 1) rfl)) (va_Nw.use rfl (hXt.2.1 (q_IA, q_IA) (by decide))) hc9 hv9 hcl9 ?_
      refine W.eq (g2 := F0 mi9 14 ls [.ref q9]) rfl ?_
      refine lv_astore (lv' := [(5, .ref q9), (0, .ref xo), (1, .long (lN a)), (3, .int x9), (4, .ref out)]) hx hb dL_add_14 hl (by decide) rfl (fun ls hl => ?_)
      refine lv_iconst (v := nI 1) hx hb dL_add_16 (by decide) ?_
      refine W.widen (k := 3) (n := 20) (Nat.le_of_ble_eq_true rfl) (Nat.le_of_ble_eq_true rfl) ?_
      exact W.iret (v := nI 1) hx hb hr (fun t9 ht hW => ⟨⟨nI 1, (n, f, m, fk, ki, fc, ea, wa, pf, cn, dp, oc, ic, lf, pt, wd, fo), rfl, (Or.inr (Or.inl ⟨rfl, hC9, rfl, rfl, rfl, rfl, rfl, rfl, rfl, rfl, rfl, rfl, rfl, rfl⟩)), by show va_P D vwCl _ t9.heap; rw [ht]; exact hP, hD⟩, hS.F ht⟩) hS.2.2 dL_add_17
    · skip
      refine vx_catch (own := RL) (name := q_IS) (E := q_IS) (ce := ce9) (q := q9) hown [⟨0, 11, 14, 13⟩] ⟨0, 11, 18, 15⟩ [] (by rw [hta]; rfl) (fun z9 h9 => by cases List.mem_singleton.mp h9; exact Or.inr ⟨by decide, q_IA, (hts (.classLink RL 13 "java/lang/IllegalArgumentException") (List.mem_of_getElem? (i := 1) rfl)), hXt.2.2.2.2.1⟩) rfl (by decide) (hts (.classLink RL 15 "java/lang/IllegalStateException") (List.mem_of_getElem? (i := 2) rfl)) (va_Nw.use rfl (hXt.2.1 (q_IS, q_IS) (by decide))) hc9 hv9 hcl9 ?_
      refine W.eq (g2 := F0 mi9 18 ls [.ref q9]) rfl ?_
      refine lv_astore (lv' := [(5, .ref q9), (0, .ref xo), (1, .long (lN a)), (3, .int x9), (4, .ref out)]) hx hb dL_add_18 hl (by decide) rfl (fun ls hl => ?_)
      refine lv_iconst (v := nI 2) hx hb dL_add_20 (by decide) ?_
      refine W.widen (k := 3) (n := 20) (Nat.le_of_ble_eq_true rfl) (Nat.le_of_ble_eq_true rfl) ?_
      exact W.iret (v := nI 2) hx hb hr (fun t9 ht hW => ⟨⟨nI 2, (n, f, m, fk, ki, fc, ea, wa, pf, cn, dp, oc, ic, lf, pt, wd, fo), rfl, (Or.inr (Or.inr (⟨rfl, hC9, rfl, rfl, rfl, rfl, rfl, rfl, rfl, rfl, rfl, rfl, rfl, rfl⟩))), by show va_P D vwCl _ t9.heap; rw [ht]; exact hP, hD⟩, hS.F ht⟩) hS.2.2 dL_add_21
  skip
  obtain ⟨n8, f8, m8, fk8, ki8, fc8, ea8, wa8, pf8, cn8, dp8, oc8, ic8, lf8, pt8, wd8⟩ := u_5
  dsimp only at hr8 hB
  obtain ⟨hB1, hB2⟩ := hB
  replace hB1 : va_P D vwCl ([(sh, .inr (4, [.ref ar, .int (nI n8)])), (ar, .inl (cS, 40, .inr (.inr (.inr (.inr f8))))), (s2, .inr (4, [.ref a2, .int (nI m8)])), (a2, .inl (cS2, 40, .inr (.inr (.inr (.inr fk8))))), (ce, .inl (cG, 121, .inl fc8))] ++ (EW ea8 wa8 pf8 cn8 dp8 oc8 ic8 lf8 pt8 n8 ++ WW wa8 wd8 n8)) H_2 := by rw [← ht]; exact hB1
  obtain ⟨hP, hD⟩ := q_joinG (X := [(out, .inl (cO, 1, .inr (.inl fo))), (sh, .inr (4, [.ref ar, .int (nI n)])), (ar, .inl (cS, 40, .inr (.inr (.inr (.inr f))))), (s2, .inr (4, [.ref a2, .int (nI m)])), (a2, .inl (cS2, 40, .inr (.inr (.inr (.inr fk))))), (ce, .inl (cG, 121, .inl fc))]) (T := (EW ea wa pf cn dp oc ic lf pt n ++ WW wa wd n)) (cx := [(sh, .inr (4, [.ref ar, .int (nI n)])), (ar, .inl (cS, 40, .inr (.inr (.inr (.inr f))))), (s2, .inr (4, [.ref a2, .int (nI m)])), (a2, .inl (cS2, 40, .inr (.inr (.inr (.inr fk))))), (ce, .inl (cG, 121, .inl fc))]) (cx' := [(sh, .inr (4, [.ref ar, .int (nI n8)])), (ar, .inl (cS, 40, .inr (.inr (.inr (.inr f8))))), (s2, .inr (4, [.ref a2, .int (nI m8)])), (a2, .inl (cS2, 40, .inr (.inr (.inr (.inr fk8))))), (ce, .inl (cG, 121, .inl fc8))]) (T' := (EW ea8 wa8 pf8 cn8 dp8 oc8 ic8 lf8 pt8 n8 ++ WW wa8 wd8 n8)) (X' := [(out, .inl (cO, 1, .inr (.inl fo))), (sh, .inr (4, [.ref ar, .int (nI n8)])), (ar, .inl (cS, 40, .inr (.inr (.inr (.inr f8))))), (s2, .inr (4, [.ref a2, .int (nI m8)])), (a2, .inl (cS2, 40, .inr (.inr (.inr (.inr fk8))))), (ce, .inl (cG, 121, .inl fc8))]) [1, 2, 3, 4, 5] hP hD rfl rfl hk1 hF hB1 hB2 rfl
  have hR := q_ro hR0 hna hS
  obtain ⟨hF80, hF81⟩ := hr8
  refine lv_i2l hx hb dL_add_9 rfl ?_
  refine va_last (D := D) hx hb hK hP hD hS 0 0 rfl rfl (vp_in_nI (n := 0) (N := 1) (by omega) (by decide)) dL_add_10 (fun H_6 locs_7 hP hD hS => ?_)
  rw [nI_clamp (n := 0) (by omega)] at hP hD
  have hP : va_P D vwCl ([(out, .inl (cO, 1, .inr (.inl (vp_updL fo 0 ((r8).toInt64))))), (sh, .inr (4, [.ref ar, .int (nI n8)])), (ar, .inl (cS, 40, .inr (.inr (.inr (.inr f8))))), (s2, .inr (4, [.ref a2, .int (nI m8)])), (a2, .inl (cS2, 40, .inr (.inr (.inr (.inr fk8))))), (ce, .inl (cG, 121, .inl fc8))] ++ (EW ea8 wa8 pf8 cn8 dp8 oc8 ic8 lf8 pt8 n8 ++ WW wa8 wd8 n8)) H_6 := hP
  have hD : va_D A ([(out, .inl (cO, 1, .inr (.inl (vp_updL fo 0 ((r8).toInt64))))), (sh, .inr (4, [.ref ar, .int (nI n8)])), (ar, .inl (cS, 40, .inr (.inr (.inr (.inr f8))))), (s2, .inr (4, [.ref a2, .int (nI m8)])), (a2, .inl (cS2, 40, .inr (.inr (.inr (.inr fk8))))), (ce, .inl (cG, 121, .inl fc8))] ++ (EW ea8 wa8 pf8 cn8 dp8 oc8 ic8 lf8 pt8 n8 ++ WW wa8 wd8 n8)) := hD
  have hR := q_ro hR0 hna hS
  refine lv_goto (tgt := 22) hx hb dL_add_11 (by decide) ?_
  refine lv_iconst (v := nI 0) hx hb dL_add_22 (by decide) ?_
  refine W.widen (k := 3) (n := 20) (Nat.le_of_ble_eq_true rfl) (Nat.le_of_ble_eq_true rfl) ?_
  exact W.iret (v := nI 0) hx hb hr (fun t9 ht hW => ⟨⟨nI 0, (n8, f8, m8, fk8, ki8, fc8, ea8, wa8, pf8, cn8, dp8, oc8, ic8, lf8, pt8, wd8, (vp_updL fo 0 ((r8).toInt64))), rfl, (Or.inl ⟨rfl, hF80, r8, rfl, hF81⟩), by show va_P D vwCl _ t9.heap; rw [ht]; exact hP, hD⟩, hS.F ht⟩) hS.2.2 dL_add_23
