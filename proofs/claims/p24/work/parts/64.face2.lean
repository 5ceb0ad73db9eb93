set_option maxRecDepth 20000 in
theorem iX9_isCorrection_X0 : ∀ w ∈ wsX00, w ∈ wsX9_isCorrection := by decide +kernel
set_option maxRecDepth 20000 in
theorem iX9_isCorrection_X9 : ∀ w ∈ wsX90, w ∈ wsX9_isCorrection := by decide +kernel
set_option maxHeartbeats 4000000 in
set_option maxRecDepth 100000 in
/-- isCorrection -/
theorem c_X9_isCorrection (l : Launch) (D : va_G) (sz : Nat) (xo : Nat) (gg : Nat) (gr : Nat) (ce : Nat) (tr : Nat) (sh : Nat) (ar : Nat) (ti : Nat) (n1 : Nat) (l1 : Nat) (s2 : Nat) (a2 : Nat) (s3 : Nat) (a3 : Nat) (n2 : Nat) (l2 : Nat) (cG : ClassId) (fc : Nat → Int32) (w0 : Nat) (v : Nat) (i : Nat) (k : Nat) (ea : Nat → Nat) (wa : Nat → Nat) (pf : Nat → Option Nat) (cn : Nat → Nat) (dp : Nat → Nat) (oc : Nat → Nat) (ic : Nat → Int32) (lf : Nat → Int32) (pt : Nat → Int32) (wd : Nat → Nat) (n : Nat) (hnd : ([ce] ++ ([xo, gg, gr, w0] ++ (rg ea n ++ rg wa n))).Nodup) (hg : ∀ k, k < n → gw (wd k)) (hgv : gw v) (hi : i < n) (hk3 : k ≤ 3) : Met l yX9_isCorrection wsX9_isCorrection { frames := 4, cells := 0, slots := 0, locals := 94 } (va_Pc [.ref xo, .ref (ea i), .ref w0, .int (nI k)] (qW D sz ([(xo, .inr (8, [.ref gg, .ref tr, .ref ti, .ref s2, .ref s3, .ref n2])), (gg, .inr (1, [.ref gr])), (gr, .inr (2, [.ref ce])), (w0, .inr (7, [.long (lN v), .int (nI (wl v)), .long (lN (al v))]))] ++ (EW ea wa pf cn dp oc ic lf pt n ++ WW wa wd n)) [(ce, .inl (cG, 121, .inl fc))] [(cG, .int)])) (va_Qi (fun (rv : Int32) (uv : (Nat → Int32)) => rv = (if dst wd v i ≤ k then 1 else 0)) (fun (uv : (Nat → Int32)) (tv : State) => va_P D vwCl [(ce, .inl (cG, 121, .inl uv))] tv.heap) (va_A [(ce, .inl (cG, 121, .inl fc))] sz)) 0 0 (va_A [(ce, .inl (cG, 121, .inl fc))] sz) := by
  refine Met.ofW (cc := cX9_isCorrection) (maxL := 4) (ret := (some .boolean)) (by decide) rfl ?_
  intro pM eM s mi9 argsM belowM methM cM sM B hml hv
  obtain ⟨rfl, hsz, hR0, hP, hK, hNw⟩ := hv
  have hx := B.exec
  have hb := B.bytes
  have hr := B.returns
  have hts := atoms_spec (ws := wsX9_isCorrection) B.pre
  have hown : s.vm.findClass RX9 = some mi9.cls := findClass_of_methodNamed B.named
  have hlocks := B.notSynchronized
  subst hsz
  have hna := q_na (RW := [(ce, .inl (cG, 121, .inl fc))]) (RO := [(xo, .inr (8, [.ref gg, .ref tr, .ref ti, .ref s2, .ref s3, .ref n2])), (gg, .inr (1, [.ref gr])), (gr, .inr (2, [.ref ce])), (w0, .inr (7, [.long (lN v), .int (nI (wl v)), .long (lN (al v))]))] ++ (EW ea wa pf cn dp oc ic lf pt n ++ WW wa wd n)) hnd rfl (by rw [List.map_append, List.map_append, EW_fst, WW_fst]; rfl) hR0
  have hD := q_D (RW := [(ce, .inl (cG, 121, .inl fc))]) (sz := s.heap.size) hnd rfl
  have hA : ∀ q : Nat, s.heap.size ≤ q → va_A [(ce, .inl (cG, 121, .inl fc))] s.heap.size q := fun q h => Or.inr h
  generalize hAe : va_A [(ce, .inl (cG, 121, .inl fc))] s.heap.size = A at hna hD hA ⊢
  have hS : va_S A s.heap s.heap [] := va_S.rf
  have hR := hR0
  have hP : va_P D vwCl [(ce, .inl (cG, 121, .inl fc))] s.heap := hP
  have hl := lv_entry ([.ref xo, .ref (ea i), .ref w0, .int (nI k)]) (n := 4) (Nat.le_of_ble_eq_true rfl)
  rw [lg_entry_eq]
  generalize (lg_sl ([.ref xo, .ref (ea i), .ref w0, .int (nI k)]) ++ List.replicate (4 - (lg_sl ([.ref xo, .ref (ea i), .ref w0, .int (nI k)])).length) Slot.unset).toArray = ls at hl ⊢
  have hl : lv_has ls 4 [(0, .ref xo), (1, .ref (ea i)), (2, .ref w0), (3, .int (nI k))] := hl
  refine lv_aload_n hx hb dX9_isCorrection_0 rfl (lv_at hl 1 rfl) ?_
  refine lv_ifnull hx hb dX9_isCorrection_1 ?_
  refine lv_aload_n hx hb dX9_isCorrection_4 rfl (lv_at hl 0 rfl) ?_
  refine va_get (D := D) (own := RX9) (ref := "FuzzyFens") (ci := 8) (v := .ref gg) (C := RX9) (T := TX9) (N := 6) hx hb hts iX9_isCorrection_X9 hown hK hR 0 rfl rfl 0 (by decide) (hts (.fieldLink RX9 12 "FuzzyFens" "gauge" "LFuzzyFens$Gauge;") (List.mem_of_getElem? (i := 1) rfl)) (fun _ h9 => h9) rfl dX9_isCorrection_5 ?_
  refine lv_aload_n hx hb dX9_isCorrection_8 rfl (lv_at hl 1 rfl) ?_
  refine va_getN (host := "FuzzyFens") (D := D) (own := RX9) (ref := "FuzzyFens$Entry") (ci := 0) (v := .ref (wa i)) (C := RX0) (T := TX0) (N := 8) hx hb hts iX9_isCorrection_X0 hown hK (E_at hR i (by omega)) 0 rfl rfl 0 (by decide) (va_Nw.use rfl (hNw.1 ("FuzzyFens", 123, "FuzzyFens$Entry", "word", "LFuzzyFens$Word;") (List.mem_of_getElem? (i := 8) rfl))) (fun _ h9 => h9) rfl dX9_isCorrection_9 ?_
  refine lv_aload_n hx hb dX9_isCorrection_12 rfl (lv_at hl 2 rfl) ?_
  have hF := va_free (wc := [(ce, .inl (cG, 121, .inl fc))]) hD hS hA [0] rfl
  refine va_calli (va_runV (As := [.ref (wa i), .ref w0]) (rest := []) ⟨hx, hb, hml, hown, hts⟩ (c_X1_lettersApart (l := l) (D := D) (g := gg) (gr := gr) (ce := ce) (cG := cG) (f := fc) (w := wa i) (v := w0) (a := wd i) (b := v) (sz := s.heap.size) (hnd := (q_ndp hnd [(0, ce), (2, gg), (3, gr), (5 + n + i, wa i), (4, w0)] (List.forall_mem_cons.mpr ⟨rfl, (List.forall_mem_cons.mpr ⟨rfl, (List.forall_mem_cons.mpr ⟨rfl, (List.forall_mem_cons.mpr ⟨(wa_ix 5 rfl i (by omega)), (List.forall_mem_cons.mpr ⟨rfl, (fun _ h => absurd h List.not_mem_nil)⟩)⟩)⟩)⟩)⟩) (by simp only [List.map_cons, List.map_nil, List.nodup_cons, List.mem_cons, List.not_mem_nil, or_false, not_or, List.nodup_nil, and_true, not_false_eq_true]; omega) rfl)) (hga := hg i hi) (hgb := hgv)) (cwV 2 hts gX9_isCorrection_X1_lettersApart rfl rfl rfl (by decide +kernel) ⟨Nat.le_of_ble_eq_true rfl, Nat.le_of_ble_eq_true rfl⟩) ⟨qW_blind, (va_recv hK hR (ci := 1) (q0 := 1) rfl rfl), (qW_of (show va_P D vwCl [(gg, .inr (1, [.ref gr])), (gr, .inr (2, [.ref ce])), (wa i, .inr (7, [.long (lN (wd i)), .int (nI (wl (wd i))), .long (lN (al (wd i)))])), (w0, .inr (7, [.long (lN v), .int (nI (wl v)), .long (lN (al v))]))] _ from (va_P.app (hR.sub (ws' := [(gg, .inr (1, [.ref gr]))]) [1] rfl) (va_P.app (hR.sub (ws' := [(gr, .inr (2, [.ref ce]))]) [2] rfl) (va_P.app ((W_at hR i (by omega))) (hR.sub (ws' := [(w0, .inr (7, [.long (lN v), .int (nI (wl v)), .long (lN (al v))]))]) [3] rfl))))) (hP.sub (ws' := [(ce, .inl (cG, 121, .inl fc))]) [0] rfl) (hK.sub (tys' := [(cG, .int)]) [0] rfl) hNw)⟩ rfl rfl hl.1 rfl (lv_room (Nat.le_of_ble_eq_true rfl)) dX9_isCorrection_13 ⟨Nat.le_of_ble_eq_true rfl, Nat.le_of_ble_eq_true rfl⟩) hS (fun q _ h => hF q h) hF (fun r_1 u_5 t_4 H_2 locs_3 ht hvm hr_1 hB hz1 hk1 hS => ?_)
  obtain ⟨f2_6, rfl⟩ : ∃ z, z = u_5 := ⟨_, rfl⟩
  replace hB : va_P D vwCl [(ce, .inl (cG, 121, .inl f2_6))] H_2 := by rw [← ht]; exact hB
  obtain ⟨hP, hD⟩ := q_join (wc := [(ce, .inl (cG, 121, .inl fc))]) (w1 := [(ce, .inl (cG, 121, .inl f2_6))]) (ws' := [(ce, .inl (cG, 121, .inl f2_6))]) [0] hP hD rfl rfl hk1 hB rfl
  have hR := q_ro hR0 hna hS
  subst hr_1
  refine q_cvi (show (nI (lev (ltz (wd i)) (ltz v) (wl (wd i)) (wl v))) = (nI (dst wd v i)) from (congrArg nI (lev_sym _ _ _ _))) ?_
  have hd20 := dst_20 (wd := wd) (gw_wl hgv) (gw_wl (hg i hi))
  refine lv_iload_n hx hb dX9_isCorrection_16 rfl (lv_at hl 3 rfl) ?_
  refine q_icmp_gt (a := dst wd v i) (b := k) (tgt := 24) hx hb dX9_isCorrection_17 (by decide) (by omega) (by omega) (fun c_17 => ?_) (fun c_17 => ?_)
  · skip
    refine lv_iconst (v := nI 0) hx hb dX9_isCorrection_24 (by decide) ?_
    exact W.zret (v := nI 0) hx hb hr (by decide) (fun t9 ht hW => ⟨⟨nI 0, f2_6, rfl, (if_neg (by omega)).symm, by show va_P D vwCl _ t9.heap; rw [ht]; exact hP⟩, hS.F ht⟩) hS.2.2 dX9_isCorrection_25
  · skip
    refine lv_iconst (v := nI 1) hx hb dX9_isCorrection_20 (by decide) ?_
    refine lv_goto (tgt := 25) hx hb dX9_isCorrection_21 (by decide) ?_
    exact W.zret (v := nI 1) hx hb hr (by decide) (fun t9 ht hW => ⟨⟨nI 1, f2_6, rfl, (if_pos (by omega)).symm, by show va_P D vwCl _ t9.heap; rw [ht]; exact hP⟩, hS.F ht⟩) hS.2.2 dX9_isCorrection_25

set_option maxRecDepth 20000 in
theorem iX9_isCandidate_X0 : ∀ w ∈ wsX00, w ∈ wsX9_isCandidate := by decide +kernel
set_option maxRecDepth 20000 in
theorem iX9_isCandidate_X8 : ∀ w ∈ wsX80, w ∈ wsX9_isCandidate := by decide +kernel
set_option maxRecDepth 20000 in
theorem iX9_isCandidate_X9 : ∀ w ∈ wsX90, w ∈ wsX9_isCandidate := by decide +kernel
set_option maxHeartbeats 4000000 in
set_option maxRecDepth 100000 in
/-- isCandidate -/
theorem c_X9_isCandidate (l : Launch) (D : va_G) (sz : Nat) (xo : Nat) (gg : Nat) (gr : Nat) (ce : Nat) (tr : Nat) (sh : Nat) (ar : Nat) (ti : Nat) (n1 : Nat) (l1 : Nat) (s2 : Nat) (a2 : Nat) (s3 : Nat) (a3 : Nat) (n2 : Nat) (l2 : Nat) (cG : ClassId) (fc : Nat → Int32) (w0 : Nat) (v : Nat) (i : Nat) (k : Nat) (ea : Nat → Nat) (wa : Nat → Nat) (pf : Nat → Option Nat) (cn : Nat → Nat) (dp : Nat → Nat) (oc : Nat → Nat) (ic : Nat → Int32) (lf : Nat → Int32) (pt : Nat → Int32) (wd : Nat → Nat) (n : Nat) (hnd : ([ce] ++ ([xo, gg, gr, w0] ++ (rg ea n ++ rg wa n))).Nodup) (hg : ∀ k, k < n → gw (wd k)) (hgv : gw v) (hi : i < n) (hk3 : k ≤ 3) : Met l yX9_isCandidate wsX9_isCandidate { frames := 4, cells := 0, slots := 0, locals := 91 } (va_Pc [.ref xo, .ref (ea i), .ref w0, .int (nI k)] (qW D sz ([(xo, .inr (8, [.ref gg, .ref tr, .ref ti, .ref s2, .ref s3, .ref n2])), (gg, .inr (1, [.ref gr])), (gr, .inr (2, [.ref ce])), (w0, .inr (7, [.long (lN v), .int (nI (wl v)), .long (lN (al v))]))] ++ (EW ea wa pf cn dp oc ic lf pt n ++ WW wa wd n)) [(ce, .inl (cG, 121, .inl fc))] [(cG, .int)])) (va_Qi (fun (rv : Int32) (uv : (Nat → Int32)) => rv = (if cdk wd v k i then 1 else 0)) (fun (uv : (Nat → Int32)) (tv : State) => va_P D vwCl [(ce, .inl (cG, 121, .inl uv))] tv.heap) (va_A [(ce, .inl (cG, 121, .inl fc))] sz)) 0 0 (va_A [(ce, .inl (cG, 121, .inl fc))] sz) := by
  refine Met.ofW (cc := cX9_isCandidate) (maxL := 5) (ret := (some .boolean)) (by decide) rfl ?_
  intro pM eM s mi9 argsM belowM methM cM sM B hml hv
  obtain ⟨rfl, hsz, hR0, hP, hK, hNw⟩ := hv
  have hx := B.exec
  have hb := B.bytes
  have hr := B.returns
  have hts := atoms_spec (ws := wsX9_isCandidate) B.pre
  have hown : s.vm.findClass RX9 = some mi9.cls := findClass_of_methodNamed B.named
  have hlocks := B.notSynchronized
  subst hsz
  have hna := q_na (RW := [(ce, .inl (cG, 121, .inl fc))]) (RO := [(xo, .inr (8, [.ref gg, .ref tr, .ref ti, .ref s2, .ref s3, .ref n2])), (gg, .inr (1, [.ref gr])), (gr, .inr (2, [.ref ce])), (w0, .inr (7, [.long (lN v), .int (nI (wl v)), .long (lN (al v))]))] ++ (EW ea wa pf cn dp oc ic lf pt n ++ WW wa wd n)) hnd rfl (by rw [List.map_append, List.map_append, EW_fst, WW_fst]; rfl) hR0
  have hD := q_D (RW := [(ce, .inl (cG, 121, .inl fc))]) (sz := s.heap.size) hnd rfl
  have hA : ∀ q : Nat, s.heap.size ≤ q → va_A [(ce, .inl (cG, 121, .inl fc))] s.heap.size q := fun q h => Or.inr h
  generalize hAe : va_A [(ce, .inl (cG, 121, .inl fc))] s.heap.size = A at hna hD hA ⊢
  have hS : va_S A s.heap s.heap [] := va_S.rf
  have hR := hR0
  have hP : va_P D vwCl [(ce, .inl (cG, 121, .inl fc))] s.heap := hP
  have hl := lv_entry ([.ref xo, .ref (ea i), .ref w0, .int (nI k)]) (n := 5) (Nat.le_of_ble_eq_true rfl)
  rw [lg_entry_eq]
  generalize (lg_sl ([.ref xo, .ref (ea i), .ref w0, .int (nI k)]) ++ List.replicate (5 - (lg_sl ([.ref xo, .ref (ea i), .ref w0, .int (nI k)])).length) Slot.unset).toArray = ls at hl ⊢
  have hl : lv_has ls 5 [(0, .ref xo), (1, .ref (ea i)), (2, .ref w0), (3, .int (nI k))] := hl
  have hwi := gw_wl (hg i hi)
  have hwv := gw_wl hgv
  have hlc := lcs_le (ltz (wd i)) (ltz v) (wl (wd i)) (wl v)
  refine lv_aload_n hx hb dX9_isCandidate_0 rfl (lv_at hl 1 rfl) ?_
  refine lv_ifnonnull (tgt := 6) hx hb dX9_isCandidate_1 (by decide) ?_
  refine lv_aload_n hx hb dX9_isCandidate_6 rfl (lv_at hl 1 rfl) ?_
  refine va_getN (host := "FuzzyFens") (D := D) (own := RX9) (ref := "FuzzyFens$Entry") (ci := 0) (v := .ref (wa i)) (C := RX0) (T := TX0) (N := 8) hx hb hts iX9_isCandidate_X0 hown hK (E_at hR i (by omega)) 0 rfl rfl 0 (by decide) (va_Nw.use rfl (hNw.1 ("FuzzyFens", 123, "FuzzyFens$Entry", "word", "LFuzzyFens$Word;") (List.mem_of_getElem? (i := 8) rfl))) (fun _ h9 => h9) rfl dX9_isCandidate_7 ?_
  refine va_getN (host := "FuzzyFens") (D := D) (own := RX9) (ref := "FuzzyFens$Word") (ci := 7) (v := .int (nI (wl (wd i)))) (C := RX8) (T := TX8) (N := 3) hx hb hts iX9_isCandidate_X8 hown hK (W_at hR i (by omega)) 0 rfl rfl 1 (by decide) (va_Nw.use rfl (hNw.1 ("FuzzyFens", 204, "FuzzyFens$Word", "length", "I") (List.mem_of_getElem? (i := 4) rfl))) (fun _ h9 => h9) rfl dX9_isCandidate_10 ?_
  refine lv_aload_n hx hb dX9_isCandidate_13 rfl (lv_at hl 2 rfl) ?_
  refine va_getN (host := "FuzzyFens") (D := D) (own := RX9) (ref := "FuzzyFens$Word") (ci := 7) (v := .int (nI (wl v))) (C := RX8) (T := TX8) (N := 3) hx hb hts iX9_isCandidate_X8 hown hK hR 3 rfl rfl 1 (by decide) (va_Nw.use rfl (hNw.1 ("FuzzyFens", 204, "FuzzyFens$Word", "length", "I") (List.mem_of_getElem? (i := 4) rfl))) (fun _ h9 => h9) rfl dX9_isCandidate_14 ?_
  refine va_mmax hx hb (hml.trans hl.1.symm) hown (hts (.methodLink RX9 207 Lib.Math.max.name) (List.mem_of_getElem? (i := 1) rfl)) (hts (.static Lib.Math.max.name) (List.mem_of_getElem? (i := 2) rfl)) (hts (.initialized "java/lang/Math") (List.mem_of_getElem? (i := 3) rfl)) (hts (.code Lib.Math.max.name Lib.Math.max.code 2 (some .int)) (List.mem_of_getElem? (i := 4) rfl)) (Nat.le_of_ble_eq_true rfl) (Nat.le_of_ble_eq_true rfl) (Nat.le_of_ble_eq_true rfl) (Nat.le_of_ble_eq_true rfl) dX9_isCandidate_17 ?_
  refine q_cvi (q_max (by omega) (by omega)) ?_
  refine lv_istore (lv' := [(4, .int (nI (max (wl (wd i)) (wl v)))), (0, .ref xo), (1, .ref (ea i)), (2, .ref w0), (3, .int (nI k))]) hx hb dX9_isCandidate_20 hl (by decide) rfl (fun ls hl => ?_)
  refine lv_iload hx hb dX9_isCandidate_22 (lv_at hl 0 rfl) ?_
  refine lv_aload_n hx hb dX9_isCandidate_24 rfl (lv_at hl 1 rfl) ?_
  refine va_get (D := D) (own := RX9) (ref := "FuzzyFens") (ci := 8) (v := .ref gg) (C := RX9) (T := TX9) (N := 6) hx hb hts iX9_isCandidate_X9 hown hK hR 0 rfl rfl 0 (by decide) (hts (.fieldLink RX9 12 "FuzzyFens" "gauge" "LFuzzyFens$Gauge;") (List.mem_of_getElem? (i := 5) rfl)) (fun _ h9 => h9) rfl dX9_isCandidate_25 ?_
  refine lv_aload_n hx hb dX9_isCandidate_28 rfl (lv_at hl 2 rfl) ?_
  refine va_getN (host := "FuzzyFens") (D := D) (own := RX9) (ref := "FuzzyFens$Entry") (ci := 0) (v := .ref (wa i)) (C := RX0) (T := TX0) (N := 8) hx hb hts iX9_isCandidate_X0 hown hK (E_at hR i (by omega)) 0 rfl rfl 0 (by decide) (va_Nw.use rfl (hNw.1 ("FuzzyFens", 123, "FuzzyFens$Entry", "word", "LFuzzyFens$Word;") (List.mem_of_getElem? (i := 8) rfl))) (fun _ h9 => h9) rfl dX9_isCandidate_29 ?_
  refine lv_aload_n hx hb dX9_isCandidate_32 rfl (lv_at hl 3 rfl) ?_
  have hF := va_free (wc := [(ce, .inl (cG, 121, .inl fc))]) hD hS hA [0] rfl
  refine va_calli (va_runV (As := [.ref (wa i), .ref w0]) (rest := [.int (nI (max (wl (wd i)) (wl v)))]) ⟨hx, hb, hml, hown, hts⟩ (c_X1_lettersShared (l := l) (D := D) (g := gg) (gr := gr) (ce := ce) (cG := cG) (f := fc) (w := wa i) (v := w0) (a := wd i) (b := v) (sz := s.heap.size) (hnd := (q_ndp hnd [(0, ce), (2, gg), (3, gr), (5 + n + i, wa i), (4, w0)] (List.forall_mem_cons.mpr ⟨rfl, (List.forall_mem_cons.mpr ⟨rfl, (List.forall_mem_cons.mpr ⟨rfl, (List.forall_mem_cons.mpr ⟨(wa_ix 5 rfl i (by omega)), (List.forall_mem_cons.mpr ⟨rfl, (fun _ h => absurd h List.not_mem_nil)⟩)⟩)⟩)⟩)⟩) (by simp only [List.map_cons, List.map_nil, List.nodup_cons, List.mem_cons, List.not_mem_nil, or_false, not_or, List.nodup_nil, and_true, not_false_eq_true]; omega) rfl)) (hga := hg i hi) (hgb := hgv)) (cwV 2 hts gX9_isCandidate_X1_lettersShared rfl rfl rfl (by decide +kernel) ⟨Nat.le_of_ble_eq_true rfl, Nat.le_of_ble_eq_true rfl⟩) ⟨qW_blind, (va_recv hK hR (ci := 1) (q0 := 1) rfl rfl), (qW_of (show va_P D vwCl [(gg, .inr (1, [.ref gr])), (gr, .inr (2, [.ref ce])), (wa i, .inr (7, [.long (lN (wd i)), .int (nI (wl (wd i))), .long (lN (al (wd i)))])), (w0, .inr (7, [.long (lN v), .int (nI (wl v)), .long (lN (al v))]))] _ from (va_P.app (hR.sub (ws' := [(gg, .inr (1, [.ref gr]))]) [1] rfl) (va_P.app (hR.sub (ws' := [(gr, .inr (2, [.ref ce]))]) [2] rfl) (va_P.app ((W_at hR i (by omega))) (hR.sub (ws' := [(w0, .inr (7, [.long (lN v), .int (nI (wl v)), .long (lN (al v))]))]) [3] rfl))))) (hP.sub (ws' := [(ce, .inl (cG, 121, .inl fc))]) [0] rfl) (hK.sub (tys' := [(cG, .int)]) [0] rfl) hNw)⟩ rfl rfl hl.1 rfl (lv_room (Nat.le_of_ble_eq_true rfl)) dX9_isCandidate_33 ⟨Nat.le_of_ble_eq_true rfl, Nat.le_of_ble_eq_true rfl⟩) hS (fun q _ h => hF q h) hF (fun r_1 u_5 t_4 H_2 locs_3 ht hvm hr_1 hB hz1 hk1 hS => ?_)
  obtain ⟨f2_6, rfl⟩ : ∃ z, z = u_5 := ⟨_, rfl⟩
  replace hB : va_P D vwCl [(ce, .inl (cG, 121, .inl f2_6))] H_2 := by rw [← ht]; exact hB
  obtain ⟨hP, hD⟩ := q_join (wc := [(ce, .inl (cG, 121, .inl fc))]) (w1 := [(ce, .inl (cG, 121, .inl f2_6))]) (ws' := [(ce, .inl (cG, 121, .inl f2_6))]) [0] hP hD rfl rfl hk1 hB rfl
  have hR := q_ro hR0 hna hS
  subst hr_1
  refine q_isub (d := max (wl (wd i)) (wl v) - lcs (ltz (wd i)) (ltz v) (wl (wd i)) (wl v)) hx hb dX9_isCandidate_36 (by omega) ?_
  refine lv_iload_n hx hb dX9_isCandidate_37 rfl (lv_at hl 4 rfl) ?_
  refine q_icmp_gt (a := max (wl (wd i)) (wl v) - lcs (ltz (wd i)) (ltz v) (wl (wd i)) (wl v)) (b := k) (tgt := 45) hx hb dX9_isCandidate_38 (by decide) (by omega) (by omega) (fun c_38 => ?_) (fun c_38 => ?_)
  · skip
    refine lv_iconst (v := nI 0) hx hb dX9_isCandidate_45 (by decide) ?_
    exact W.zret (v := nI 0) hx hb hr (by decide) (fun t9 ht hW => ⟨⟨nI 0, f2_6, rfl, (if_neg (by show ¬ (max (wl (wd i)) (wl v) ≤ lcs (ltz (wd i)) (ltz v) (wl (wd i)) (wl v) + k); omega)).symm, by show va_P D vwCl _ t9.heap; rw [ht]; exact hP⟩, hS.F ht⟩) hS.2.2 dX9_isCandidate_46
  · skip
    refine lv_iconst (v := nI 1) hx hb dX9_isCandidate_41 (by decide) ?_
    refine lv_goto (tgt := 46) hx hb dX9_isCandidate_42 (by decide) ?_
    exact W.zret (v := nI 1) hx hb hr (by decide) (fun t9 ht hW => ⟨⟨nI 1, f2_6, rfl, (if_pos (by show max (wl (wd i)) (wl v) ≤ lcs (ltz (wd i)) (ltz v) (wl (wd i)) (wl v) + k; omega)).symm, by show va_P D vwCl _ t9.heap; rw [ht]; exact hP⟩, hS.F ht⟩) hS.2.2 dX9_isCandidate_46

set_option maxRecDepth 20000 in
theorem iX9_candidates_X9 : ∀ w ∈ wsX90, w ∈ wsX9_candidates := by decide +kernel
set_option maxHeartbeats 4000000 in
set_option maxRecDepth 100000 in
/-- candidates -/
theorem c_X9_candidates (l : Launch) (D : va_G) (sz : Nat) (xo : Nat) (gg : Nat) (gr : Nat) (ce : Nat) (tr : Nat) (sh : Nat) (ar : Nat) (ti : Nat) (n1 : Nat) (l1 : Nat) (s2 : Nat) (a2 : Nat) (s3 : Nat) (a3 : Nat) (n2 : Nat) (l2 : Nat) (cS2 : ClassId) (fk : Nat → Option Nat) (m : Nat) (ki : Nat → Nat) (ea : Nat → Nat) (wa : Nat → Nat) (pf : Nat → Option Nat) (cn : Nat → Nat) (dp : Nat → Nat) (oc : Nat → Nat) (ic : Nat → Int32) (lf : Nat → Int32) (pt : Nat → Int32) (wd : Nat → Nat) (n : Nat) (cG : ClassId) (fc : Nat → Int32) (a : Nat) (x9 : Int32) (hst : l.stackTraces = false) (hnd : ([ce] ++ ([xo, gg, gr, s2, a2] ++ (rg ea n ++ rg wa n))).Nodup) (ha : a < 2 ^ 64) (hm : m ≤ 40) (hf : ∀ j, j < m → fk j = some (ea (ki j))) (hki : ∀ j, j < m → ki j < n) (hg : ∀ k, k < n → gw (wd k)) : vx_Met l yX9_candidates wsX9_candidates { frames := 7, cells := 2, slots := 12, locals := 115 } (va_Pc [.ref xo, .long (lN a), .int x9] (qWx D sz ([(xo, .inr (8, [.ref gg, .ref tr, .ref ti, .ref s2, .ref s3, .ref n2])), (gg, .inr (1, [.ref gr])), (gr, .inr (2, [.ref ce])), (s2, .inr (4, [.ref a2, .int (nI m)])), (a2, .inl (cS2, 40, .inr (.inr (.inr (.inr fk)))))] ++ (EW ea wa pf cn dp oc ic lf pt n ++ WW wa wd n)) [(ce, .inl (cG, 121, .inl fc))] [(cG, .int), (cS2, .object "FuzzyFens$Entry")])) (va_Qi (fun (rv : Int32) (uv : (Nat → Int32)) => rv = nI (cnt (fun j => decide (cdk wd a (kz x9) (ki j))) m) ∧ gw a ∧ 0 ≤ x9 ∧ x9 ≤ nI 2) (fun (uv : (Nat → Int32)) (tv : State) => va_P D vwCl [(ce, .inl (cG, 121, .inl uv))] tv.heap) (va_A [(ce, .inl (cG, 121, .inl fc))] sz)) (vx_X (fun _ : Unit => True) (fun (E9 : String) (uv : Unit) (tv : State) => ((E9 = q_IA ∧ (¬ (gw a ∧ 0 ≤ x9 ∧ x9 ≤ nI 2)))) ∧ va_P D vwCl ([(ce, .inl (cG, 121, .inl fc))]) tv.heap) (va_A [(ce, .inl (cG, 121, .inl fc))] sz)) 2 12 (va_A [(ce, .inl (cG, 121, .inl fc))] sz) := by
  refine vx_ofW (cc := cX9_candidates) (maxL := 7) (ret := (some .int)) (by decide) rfl ?_
  intro pM eM s mi9 argsM belowM methM cM sM B hml htab hv
  obtain ⟨rfl, hsz, hR0, hP, hK, hNw, hZ, hXt⟩ := hv
  have hx := B.exec
  have hb := B.bytes
  have hr := B.returns
  have hts := atoms_spec (ws := wsX9_candidates) B.pre
  have hown : s.vm.findClass RX9 = some mi9.cls := findClass_of_methodNamed B.named
  have hlocks := B.notSynchronized
  subst hsz
  have hna := q_na (RW := [(ce, .inl (cG, 121, .inl fc))]) (RO := [(xo, .inr (8, [.ref gg, .ref tr, .ref ti, .ref s2, .ref s3, .ref n2])), (gg, .inr (1, [.ref gr])), (gr, .inr (2, [.ref ce])), (s2, .inr (4, [.ref a2, .int (nI m)])), (a2, .inl (cS2, 40, .inr (.inr (.inr (.inr fk)))))] ++ (EW ea wa pf cn dp oc ic lf pt n ++ WW wa wd n)) hnd rfl (by rw [List.map_append, List.map_append, EW_fst, WW_fst]; rfl) hR0
  have hD := q_D (RW := [(ce, .inl (cG, 121, .inl fc))]) (sz := s.heap.size) hnd rfl
  have hnR : (([(xo, .inr (8, [.ref gg, .ref tr, .ref ti, .ref s2, .ref s3, .ref n2])), (gg, .inr (1, [.ref gr])), (gr, .inr (2, [.ref ce])), (s2, .inr (4, [.ref a2, .int (nI m)])), (a2, .inl (cS2, 40, .inr (.inr (.inr (.inr fk)))))] ++ (EW ea wa pf cn dp oc ic lf pt n ++ WW wa wd n) : va_W).map (·.1)).Nodup := by rw [show ([(xo, .inr (8, [.ref gg, .ref tr, .ref ti, .ref s2, .ref s3, .ref n2])), (gg, .inr (1, [.ref gr])), (gr, .inr (2, [.ref ce])), (s2, .inr (4, [.ref a2, .int (nI m)])), (a2, .inl (cS2, 40, .inr (.inr (.inr (.inr fk)))))] ++ (EW ea wa pf cn dp oc ic lf pt n ++ WW wa wd n) : va_W).map (·.1) = ([xo, gg, gr, s2, a2] ++ (rg ea n ++ rg wa n)) from (by rw [List.map_append, List.map_append, EW_fst, WW_fst]; rfl)]; exact (List.nodup_append.mp hnd).2.1
  have hA : ∀ q : Nat, s.heap.size ≤ q → va_A [(ce, .inl (cG, 121, .inl fc))] s.heap.size q := fun q h => Or.inr h
  generalize hAe : va_A [(ce, .inl (cG, 121, .inl fc))] s.heap.size = A at hna hD hA hZ ⊢
  have hS : va_S A s.heap s.heap [] := va_S.rf
  have hR := hR0
  have hP : va_P D vwCl [(ce, .inl (cG, 121, .inl fc))] s.heap := hP
  obtain ⟨⟨tR, hZR, hTR⟩, ⟨tP, hZP, hTP⟩, hUS, hSS⟩ := id hZ
  have hl := lv_entry ([.ref xo, .long (lN a), .int x9]) (n := 7) (Nat.le_of_ble_eq_true rfl)
  rw [lg_entry_eq]
  generalize (lg_sl ([.ref xo, .long (lN a), .int x9]) ++ List.replicate (7 - (lg_sl ([.ref xo, .long (lN a), .int x9])).length) Slot.unset).toArray = ls at hl ⊢
  have hl : lv_has ls 7 [(0, .ref xo), (1, .long (lN a)), (3, .int x9)] := hl
  refine lv_lload_n hx hb dX9_candidates_0 rfl (lv_at hl 1 rfl) ?_
  have hF := va_free (wc := []) hD hS hA [] rfl
  refine vx_callq (vx_runS (As := [.long (lN a)]) (rest := []) ⟨hx, hb, hml, hown, hts⟩ (c_X9_wordOf (l := l) (D := D) (a := a) (sz := s.heap.size) (hnd := (q_nds (q_ndl hnd) [] rfl rfl)) (hst := hst) (ha := ha)) (va_cwS 1 hts gX9_candidates_X9_wordOf rfl rfl rfl (by decide +kernel) ⟨Nat.le_of_ble_eq_true rfl, Nat.le_of_ble_eq_true rfl⟩) ⟨qWx_blind, (qWx_of (q_Pof (fun _ h => absurd h List.not_mem_nil)) (q_Pof (fun _ h => absurd h List.not_mem_nil)) (hK.sub (tys' := []) [] rfl) hNw (qZ_at hZ hS (fun q h => hF q h)) hXt)⟩ rfl rfl hl.1 rfl (lv_room (Nat.le_of_ble_eq_true rfl)) dX9_candidates_1 ⟨Nat.le_of_ble_eq_true rfl, Nat.le_of_ble_eq_true rfl⟩) hS (fun q _ h => hF q h) hF (fun q _ h => hF q h) (fun E9 ce9 q9 u9 t9 H9 locs9 ht9 hvm9 hpx9 hBX9 hz9 hk9 hS9 hc9 hv9 hcl9 => ?_) (fun r_1 u_5 t_4 H_2 locs_3 ht hvm hr_1 hB hz1 hk1 hS => ?_)
  · obtain ⟨hE9, hW9⟩ := hBX9
    exact vx_out (fun x9 h9 => (htab x9 h9).elim) hlocks hc9 hv9 hcl9 (fun t8 ht8 hvm8 => ⟨(), trivial, ⟨⟨hE9.1, fun h9 => hE9.2 h9.1⟩, by show va_P D vwCl _ t8.heap; rw [ht8]; exact (q_keepP hP hk9 q_A0)⟩, ⟨by rw [ht8]; exact hS9.1, fun q8 a8 b8 => by rw [ht8]; exact hS9.2.1 q8 a8 b8⟩⟩) hS9.2.2 (Nat.le_of_ble_eq_true rfl) (Nat.le_of_ble_eq_true rfl)
  skip
  obtain ⟨w9_6, rfl⟩ : ∃ z, z = u_5 := ⟨_, rfl⟩
  obtain ⟨hB1, hB2, hB3⟩ := hB
  replace hB1 : va_P D vwCl ([] ++ [(w9_6, .inr (7, [.long (lN a), .int (nI (wl a)), .long (lN (al a))]))]) H_2 := by rw [← ht]; exact hB1
  obtain ⟨hP, hD⟩ := q_joinN (wc := []) (w1 := []) (wn := [(w9_6, .inr (7, [.long (lN a), .int (nI (wl a)), .long (lN (al a))]))]) (ws' := [(ce, .inl (cG, 121, .inl fc))]) [] hP hD rfl rfl hk1 hF hB1 hB2 rfl
  have hK : va_K D vwCl [(cG, .int), (cS2, .object "FuzzyFens$Entry")] s := hK.app (va_K.moved hvm.symm hB3)
  have hP : va_P D vwCl [(ce, .inl (cG, 121, .inl fc)), (w9_6, .inr (7, [.long (lN a), .int (nI (wl a)), .long (lN (al a))]))] H_2 := hP
  have hD : va_D A [(ce, .inl (cG, 121, .inl fc)), (w9_6, .inr (7, [.long (lN a), .int (nI (wl a)), .long (lN (al a))]))] := hD
  have hR := q_ro hR0 hna hS
  obtain ⟨rfl, hgw⟩ := hr_1
  refine q_cvv (show va_rf (some w9_6) = .ref w9_6 from rfl) ?_
  refine lv_astore (lv' := [(4, .ref w9_6), (0, .ref xo), (1, .long (lN a)), (3, .int x9)]) hx hb dX9_candidates_4 hl (by decide) rfl (fun ls hl => ?_)
  refine lv_iload_n hx hb dX9_candidates_6 rfl (lv_at hl 3 rfl) ?_
  refine lv_iconst (v := nI 0) hx hb dX9_candidates_7 (by decide) ?_
  refine lv_iconst (v := nI 2) hx hb dX9_candidates_8 (by decide) ?_
  have hF := va_free (wc := []) hD hS hA [] rfl
  refine vx_callv (vx_runS (As := [.int x9, .int (nI 0), .int (nI 2)]) (rest := []) ⟨hx, hb, hml, hown, hts⟩ (c_X9_checkWithin (l := l) (D := D) (x9 := x9) (lo := 0) (hi := 2) (sz := H_2.size) (hnd := (q_nds (q_ndl (q_ndg (l1 := [ce, w9_6]) (l2 := ([xo, gg, gr, s2, a2] ++ (rg ea n ++ rg wa n))) hD hnR hna rfl (by rw [List.map_append, List.map_append, EW_fst, WW_fst]; rfl))) [] rfl rfl)) (hst := hst) (hlo := by omega) (hhi := by omega)) (va_cwS 3 hts gX9_candidates_X9_checkWithin rfl rfl rfl (by decide +kernel) ⟨Nat.le_of_ble_eq_true rfl, Nat.le_of_ble_eq_true rfl⟩) ⟨qWx_blind, (qWx_of (q_Pof (fun _ h => absurd h List.not_mem_nil)) (q_Pof (fun _ h => absurd h List.not_mem_nil)) (hK.sub (tys' := []) [] rfl) hNw (qZ_at hZ hS (fun q h => hF q h)) hXt)⟩ rfl rfl hl.1 rfl (lv_room (Nat.le_of_ble_eq_true rfl)) dX9_candidates_9 ⟨Nat.le_of_ble_eq_true rfl, Nat.le_of_ble_eq_true rfl⟩) hS (fun q _ h => hF q h) hF (fun q _ h => hF q h) (fun E9 ce9 q9 u9 t9 H9 locs9 ht9 hvm9 hpx9 hBX9 hz9 hk9 hS9 hc9 hv9 hcl9 => ?_) (fun u_11 t_10 H_8 locs_9 ht hvm hr_7 hB hz1 hk1 hS => ?_)
  · obtain ⟨hE9, hW9⟩ := hBX9
    exact vx_out (fun x9 h9 => (htab x9 h9).elim) hlocks hc9 hv9 hcl9 (fun t8 ht8 hvm8 => ⟨(), trivial, ⟨⟨hE9.1, fun h9 => hE9.2 h9.2⟩, by show va_P D vwCl _ t8.heap; rw [ht8]; exact (va_P.sub (ws' := [(ce, .inl (cG, 121, .inl fc))]) (q_keepP hP hk9 q_A0) [0] rfl)⟩, ⟨by rw [ht8]; exact hS9.1, fun q8 a8 b8 => by rw [ht8]; exact hS9.2.1 q8 a8 b8⟩⟩) hS9.2.2 (Nat.le_of_ble_eq_true rfl) (Nat.le_of_ble_eq_true rfl)
  skip
  replace hB : va_P D vwCl [] H_8 := by rw [← ht]; exact hB
  obtain ⟨hP, hD⟩ := q_join (wc := []) (w1 := []) (ws' := [(ce, .inl (cG, 121, .inl fc)), (w9_6, .inr (7, [.long (lN a), .int (nI (wl a)), .long (lN (al a))]))]) [] hP hD rfl rfl hk1 hB rfl
  have hR := q_ro hR0 hna hS
  have hcw := hr_7
  have hkk := kz_le (m := 2) (by decide) hcw.1 hcw.2
  have hl : lv_has ls 7 [(4, .ref w9_6), (0, .ref xo), (1, .long (lN a)), (3, .int (nI (kz x9)))] := (congrArg (fun v9 => lv_has ls 7 [(4, .ref w9_6), (0, .ref xo), (1, .long (lN a)), (3, .int v9)]) (kz_of hcw.1)).mp hl
  refine lv_iconst (v := nI 0) hx hb dX9_candidates_12 (by decide) ?_
  refine lv_istore (lv' := [(5, .int (nI 0)), (4, .ref w9_6), (0, .ref xo), (1, .long (lN a)), (3, .int (nI (kz x9)))]) hx hb dX9_candidates_13 hl (by decide) rfl (fun ls hl => ?_)
  refine lv_iconst (v := nI 0) hx hb dX9_candidates_15 (by decide) ?_
  refine lv_istore (lv' := [(6, .int (nI 0)), (5, .int (nI 0)), (4, .ref w9_6), (0, .ref xo), (1, .long (lN a)), (3, .int (nI (kz x9)))]) hx hb dX9_candidates_16 hl (by decide) rfl (fun ls hl => ?_)
  refine q_loop (fun (x : (Nat) × (Nat → Int32)) (H : Heap) (locs : List Loc) (ls : Array Slot) => match x with | (i, fc1) => (i ≤ m) ∧ va_P D vwCl [(ce, .inl (cG, 121, .inl fc1)), (w9_6, .inr (7, [.long (lN a), .int (nI (wl a)), .long (lN (al a))]))] H ∧ va_D A [(ce, .inl (cG, 121, .inl fc1)), (w9_6, .inr (7, [.long (lN a), .int (nI (wl a)), .long (lN (al a))]))] ∧ va_S A s.heap H locs ∧ lv_has ls 7 [(6, .int (nI i)), (5, .int (nI (cnt (fun j => decide (cdk wd a (kz x9) (ki j))) i))), (4, .ref w9_6), (0, .ref xo), (1, .long (lN a)), (3, .int (nI (kz x9)))]) (fun (x : (Nat) × (Nat → Int32)) => match x with | (i, fc1) => m - i) (0, fc) ⟨(by omega), hP, hD, hS, (lv_sub hl [0, 1, 2, 3, 4, 5] rfl)⟩ ?_
  clear hl
  clear hP hD hS
  rintro ⟨i, fc1⟩ H locs ls hI ih_18
  obtain ⟨hi, hP, hD, hS, hl⟩ := hI
  have hR := q_ro hR0 hna hS
  refine lv_iload hx hb dX9_candidates_18 (lv_at hl 0 rfl) ?_
  refine lv_aload_n hx hb dX9_candidates_20 rfl (lv_at hl 3 rfl) ?_
  refine va_get (D := D) (own := RX9) (ref := "FuzzyFens") (ci := 8) (v := .ref s2) (C := RX9) (T := TX9) (N := 6) hx hb hts iX9_candidates_X9 hown hK hR 0 rfl rfl 3 (by decide) (hts (.fieldLink RX9 33 "FuzzyFens" "knownWords" "LFuzzyFens$Shelf;") (List.mem_of_getElem? (i := 1) rfl)) (fun _ h9 => h9) rfl dX9_candidates_21 ?_
  refine vp_callSi (W.runV (As := []) (rest := [.int (nI i)]) ⟨hx, hb, hml, hown, hts⟩ (c_X5_size (l := l) (D := D) (sh := s2) (ar := a2) (m := m) ) (cwV 0 hts gX9_candidates_X5_size rfl rfl rfl (by decide +kernel) ⟨Nat.le_of_ble_eq_true rfl, Nat.le_of_ble_eq_true rfl⟩) ⟨qP_blind, (va_recv hK hR (ci := 4) (q0 := 3) rfl rfl), (qP_of (hR.sub (ws' := [(s2, .inr (4, [.ref a2, .int (nI m)]))]) [3] rfl) (hK.sub (tys' := []) [] rfl) hNw)⟩ rfl rfl hl.1 rfl (lv_room (Nat.le_of_ble_eq_true rfl)) dX9_candidates_24 ⟨Nat.le_of_ble_eq_true rfl, Nat.le_of_ble_eq_true rfl⟩) (fun r_12 hr_12 => ?_)
  subst hr_12
  refine q_icmp_ge (a := i) (b := m) (tgt := 58) hx hb dX9_candidates_27 (by decide) (by omega) (by omega) (fun c_27 => ?_) (fun c_27 => ?_)
  · skip
    refine lv_iload hx hb dX9_candidates_58 (lv_at hl 1 rfl) ?_
    refine vx_ret ?_
    refine W.widen (k := 2) (n := 12) (Nat.le_of_ble_eq_true rfl) (Nat.le_of_ble_eq_true rfl) ?_
    exact W.iret (v := nI (cnt (fun j => decide (cdk wd a (kz x9) (ki j))) i)) hx hb hr (fun t9 ht hW => ⟨⟨nI (cnt (fun j => decide (cdk wd a (kz x9) (ki j))) i), fc1, rfl, ⟨(by rw [show m = i by omega]), ⟨hgw, hcw⟩⟩, by show va_P D vwCl _ t9.heap; rw [ht]; exact (va_P.sub (ws' := [(ce, .inl (cG, 121, .inl fc1))]) hP [0] rfl)⟩, hS.F ht⟩) hS.2.2 dX9_candidates_60
  · skip
    refine lv_aload_n hx hb dX9_candidates_30 rfl (lv_at hl 3 rfl) ?_
    refine lv_aload_n hx hb dX9_candidates_31 rfl (lv_at hl 3 rfl) ?_
    refine va_get (D := D) (own := RX9) (ref := "FuzzyFens") (ci := 8) (v := .ref s2) (C := RX9) (T := TX9) (N := 6) hx hb hts iX9_candidates_X9 hown hK hR 0 rfl rfl 3 (by decide) (hts (.fieldLink RX9 33 "FuzzyFens" "knownWords" "LFuzzyFens$Shelf;") (List.mem_of_getElem? (i := 1) rfl)) (fun _ h9 => h9) rfl dX9_candidates_32 ?_
    refine lv_iload hx hb dX9_candidates_35 (lv_at hl 0 rfl) ?_
    refine va_csq (W.runV (As := [.int (nI i)]) (rest := [.ref xo]) ⟨hx, hb, hml, hown, hts⟩ (c_X5_at (l := l) (D := D) (sh := s2) (ar := a2) (cS := cS2) (f := fk) (m := m) (i := i) (hi := by omega) (hm := hm)) (cwV 1 hts gX9_candidates_X5_at rfl rfl rfl (by decide +kernel) ⟨Nat.le_of_ble_eq_true rfl, Nat.le_of_ble_eq_true rfl⟩) ⟨qP_blind, (va_recv hK hR (ci := 4) (q0 := 3) rfl rfl), (qP_of (hR.sub (ws' := [(s2, .inr (4, [.ref a2, .int (nI m)])), (a2, .inl (cS2, 40, .inr (.inr (.inr (.inr fk)))))]) [3, 4] rfl) (hK.sub (tys' := [(cS2, .object "FuzzyFens$Entry")]) [1] rfl) hNw)⟩ rfl rfl hl.1 rfl (lv_room (Nat.le_of_ble_eq_true rfl)) dX9_candidates_37 ⟨Nat.le_of_ble_eq_true rfl, Nat.le_of_ble_eq_true rfl⟩) (fun r_13 hr_13 => ?_)
    subst hr_13
    have e9 : fk i = some (ea (ki i)) := hf _ (by omega)
    have hk9 := hki i (by omega)
    refine q_cvv (show va_rf (fk i) = .ref (ea (ki i)) from (by rw [e9]; rfl)) ?_
    refine lv_aload hx hb dX9_candidates_40 (lv_at hl 2 rfl) ?_
    refine lv_iload_n hx hb dX9_candidates_42 rfl (lv_at hl 5 rfl) ?_
    have hF := va_free (wc := [(ce, .inl (cG, 121, .inl fc1))]) hD hS hA [0] rfl
    refine va_calli (va_runV (As := [.ref (ea (ki i)), .ref w9_6, .int (nI (kz x9))]) (rest := []) ⟨hx, hb, hml, hown, hts⟩ (c_X9_isCandidate (l := l) (D := D) (xo := xo) (gg := gg) (gr := gr) (ce := ce) (tr := tr) (sh := sh) (ar := ar) (ti := ti) (n1 := n1) (l1 := l1) (s2 := s2) (a2 := a2) (s3 := s3) (a3 := a3) (n2 := n2) (l2 := l2) (cG := cG) (fc := fc1) (w0 := w9_6) (v := a) (i := (ki i)) (k := kz x9) (ea := ea) (wa := wa) (pf := pf) (cn := cn) (dp := dp) (oc := oc) (ic := ic) (lf := lf) (pt := pt) (wd := wd) (n := n) (sz := H.size) (hnd := (q_ndt (q_ndg (l1 := [ce, w9_6]) (l2 := ([xo, gg, gr, s2, a2] ++ (rg ea n ++ rg wa n))) hD hnR hna rfl (by rw [List.map_append, List.map_append, EW_fst, WW_fst]; rfl)) [0, 2, 3, 4, 1] rfl rfl)) (hg := hg) (hgv := hgw) (hi := hk9) (hk3 := by omega)) (cwV 3 hts gX9_candidates_X9_isCandidate rfl rfl rfl (by decide +kernel) ⟨Nat.le_of_ble_eq_true rfl, Nat.le_of_ble_eq_true rfl⟩) ⟨qW_blind, (va_recv hK hR (ci := 8) (q0 := 0) rfl rfl), (qW_of (va_P.app (show va_P D vwCl [(xo, .inr (8, [.ref gg, .ref tr, .ref ti, .ref s2, .ref s3, .ref n2])), (gg, .inr (1, [.ref gr])), (gr, .inr (2, [.ref ce])), (w9_6, .inr (7, [.long (lN a), .int (nI (wl a)), .long (lN (al a))]))] _ from (va_P.app (hR.sub (ws' := [(xo, .inr (8, [.ref gg, .ref tr, .ref ti, .ref s2, .ref s3, .ref n2]))]) [0] rfl) (va_P.app (hR.sub (ws' := [(gg, .inr (1, [.ref gr]))]) [1] rfl) (va_P.app (hR.sub (ws' := [(gr, .inr (2, [.ref ce]))]) [2] rfl) (hP.sub (ws' := [(w9_6, .inr (7, [.long (lN a), .int (nI (wl a)), .long (lN (al a))]))]) [1] rfl))))) (q_right hR)) (hP.sub (ws' := [(ce, .inl (cG, 121, .inl fc1))]) [0] rfl) (hK.sub (tys' := [(cG, .int)]) [0] rfl) hNw)⟩ rfl rfl hl.1 rfl (lv_room (Nat.le_of_ble_eq_true rfl)) dX9_candidates_43 ⟨Nat.le_of_ble_eq_true rfl, Nat.le_of_ble_eq_true rfl⟩) hS (fun q _ h => hF q h) hF (fun r_14 u_18 t_17 H_15 locs_16 ht hvm hr_14 hB hz1 hk1 hS => ?_)
    obtain ⟨fc2_19, rfl⟩ : ∃ z, z = u_18 := ⟨_, rfl⟩
    replace hB : va_P D vwCl [(ce, .inl (cG, 121, .inl fc2_19))] H_15 := by rw [← ht]; exact hB
    obtain ⟨hP, hD⟩ := q_join (wc := [(ce, .inl (cG, 121, .inl fc1))]) (w1 := [(ce, .inl (cG, 121, .inl fc2_19))]) (ws' := [(ce, .inl (cG, 121, .inl fc2_19)), (w9_6, .inr (7, [.long (lN a), .int (nI (wl a)), .long (lN (al a))]))]) [0] hP hD rfl rfl hk1 hB rfl
    have hR := q_ro hR0 hna hS
    subst hr_14
    refine q_ifb_eq (tgt := 52) hx hb dX9_candidates_46 (by decide) (fun c_46 => ?_) (fun c_46 => ?_)
    · skip
      refine lv_iinc (v := nI (i + 1)) (lv' := [(6, .int (nI (i + 1))), (5, .int (nI (cnt (fun j => decide (cdk wd a (kz x9) (ki j))) i))), (4, .ref w9_6), (0, .ref xo), (1, .long (lN a)), (3, .int (nI (kz x9)))]) hx hb dX9_candidates_52 hl (k := 0) rfl (q_inc (k := 1) (by omega)) (by decide) rfl (fun ls hl => ?_)
      refine lv_goto (tgt := 18) hx hb dX9_candidates_55 (by decide) ?_
      rw [show cnt (fun j => decide (cdk wd a (kz x9) (ki j))) i = cnt (fun j => decide (cdk wd a (kz x9) (ki j))) (i + 1) from (cnt_f (by rw [decide_eq_true_eq]; exact c_46)).symm] at hl
      exact ih_18 (i + 1, fc2_19) _ _ _ ⟨(by omega), hP, hD, hS, (lv_sub hl [0, 1, 2, 3, 4, 5] rfl)⟩ (by show m - (i + 1) < m - i; omega)
    · skip
      refine lv_iinc (v := nI (cnt (fun j => decide (cdk wd a (kz x9) (ki j))) i + 1)) (lv' := [(5, .int (nI (cnt (fun j => decide (cdk wd a (kz x9) (ki j))) i + 1))), (6, .int (nI i)), (4, .ref w9_6), (0, .ref xo), (1, .long (lN a)), (3, .int (nI (kz x9)))]) hx hb dX9_candidates_49 hl (k := 1) rfl (q_inc (k := 1) (by omega)) (by decide) rfl (fun ls hl => ?_)
      refine lv_iinc (v := nI (i + 1)) (lv' := [(6, .int (nI (i + 1))), (5, .int (nI (cnt (fun j => decide (cdk wd a (kz x9) (ki j))) i + 1))), (4, .ref w9_6), (0, .ref xo), (1, .long (lN a)), (3, .int (nI (kz x9)))]) hx hb dX9_candidates_52 hl (k := 1) rfl (q_inc (k := 1) (by omega)) (by decide) rfl (fun ls hl => ?_)
      refine lv_goto (tgt := 18) hx hb dX9_candidates_55 (by decide) ?_
      rw [show cnt (fun j => decide (cdk wd a (kz x9) (ki j))) i + 1 = cnt (fun j => decide (cdk wd a (kz x9) (ki j))) (i + 1) from (cnt_t (by rw [decide_eq_true_eq]; exact c_46)).symm] at hl
      exact ih_18 (i + 1, fc2_19) _ _ _ ⟨(by omega), hP, hD, hS, (lv_sub hl [0, 1, 2, 3, 4, 5] rfl)⟩ (by show m - (i + 1) < m - i; omega)

set_option maxRecDepth 20000 in
theorem iX9_falseCandidates_X9 : ∀ w ∈ wsX90, w ∈ wsX9_falseCandidates := by decide +kernel
set_option maxHeartbeats 4000000 in
set_option maxRecDepth 100000 in
/-- falseCandidates -/
theorem c_X9_falseCandidates (l : Launch) (D : va_G) (sz : Nat) (xo : Nat) (gg : Nat) (gr : Nat) (ce : Nat) (tr : Nat) (sh : Nat) (ar : Nat) (ti : Nat) (n1 : Nat) (l1 : Nat) (s2 : Nat) (a2 : Nat) (s3 : Nat) (a3 : Nat) (n2 : Nat) (l2 : Nat) (cS2 : ClassId) (fk : Nat → Option Nat) (m : Nat) (ki : Nat → Nat) (ea : Nat → Nat) (wa : Nat → Nat) (pf : Nat → Option Nat) (cn : Nat → Nat) (dp : Nat → Nat) (oc : Nat → Nat) (ic : Nat → Int32) (lf : Nat → Int32) (pt : Nat → Int32) (wd : Nat → Nat) (n : Nat) (cG : ClassId) (fc : Nat → Int32) (a : Nat) (x9 : Int32) (hst : l.stackTraces = false) (hnd : ([ce] ++ ([xo, gg, gr, s2, a2] ++ (rg ea n ++ rg wa n))).Nodup) (ha : a < 2 ^ 64) (hm : m ≤ 40) (hf : ∀ j, j < m → fk j = some (ea (ki j))) (hki : ∀ j, j < m → ki j < n) (hg : ∀ k, k < n → gw (wd k)) : vx_Met l yX9_falseCandidates wsX9_falseCandidates { frames := 7, cells := 2, slots := 12, locals := 117 } (va_Pc [.ref xo, .long (lN a), .int x9] (qWx D sz ([(xo, .inr (8, [.ref gg, .ref tr, .ref ti, .ref s2, .ref s3, .ref n2])), (gg, .inr (1, [.ref gr])), (gr, .inr (2, [.ref ce])), (s2, .inr (4, [.ref a2, .int (nI m)])), (a2, .inl (cS2, 40, .inr (.inr (.inr (.inr fk)))))] ++ (EW ea wa pf cn dp oc ic lf pt n ++ WW wa wd n)) [(ce, .inl (cG, 121, .inl fc))] [(cG, .int), (cS2, .object "FuzzyFens$Entry")])) (va_Qi (fun (rv : Int32) (uv : (Nat → Int32)) => rv = nI (cnt (fun j => decide (cdk wd a (kz x9) (ki j) ∧ ¬ dst wd a (ki j) ≤ kz x9)) m) ∧ gw a ∧ 0 ≤ x9 ∧ x9 ≤ nI 2) (fun (uv : (Nat → Int32)) (tv : State) => va_P D vwCl [(ce, .inl (cG, 121, .inl uv))] tv.heap) (va_A [(ce, .inl (cG, 121, .inl fc))] sz)) (vx_X (fun _ : Unit => True) (fun (E9 : String) (uv : Unit) (tv : State) => ((E9 = q_IA ∧ (¬ (gw a ∧ 0 ≤ x9 ∧ x9 ≤ nI 2)))) ∧ va_P D vwCl ([(ce, .inl (cG, 121, .inl fc))]) tv.heap) (va_A [(ce, .inl (cG, 121, .inl fc))] sz)) 2 12 (va_A [(ce, .inl (cG, 121, .inl fc))] sz) := by
  refine vx_ofW (cc := cX9_falseCandidates) (maxL := 8) (ret := (some .int)) (by decide) rfl ?_
  intro pM eM s mi9 argsM belowM methM cM sM B hml htab hv
  obtain ⟨rfl, hsz, hR0, hP, hK, hNw, hZ, hXt⟩ := hv
  have hx := B.exec
  have hb := B.bytes
  have hr := B.returns
  have hts := atoms_spec (ws := wsX9_falseCandidates) B.pre
  have hown : s.vm.findClass RX9 = some mi9.cls := findClass_of_methodNamed B.named
  have hlocks := B.notSynchronized
  subst hsz
  have hna := q_na (RW := [(ce, .inl (cG, 121, .inl fc))]) (RO := [(xo, .inr (8, [.ref gg, .ref tr, .ref ti, .ref s2, .ref s3, .ref n2])), (gg, .inr (1, [.ref gr])), (gr, .inr (2, [.ref ce])), (s2, .inr (4, [.ref a2, .int (nI m)])), (a2, .inl (cS2, 40, .inr (.inr (.inr (.inr fk)))))] ++ (EW ea wa pf cn dp oc ic lf pt n ++ WW wa wd n)) hnd rfl (by rw [List.map_append, List.map_append, EW_fst, WW_fst]; rfl) hR0
  have hD := q_D (RW := [(ce, .inl (cG, 121, .inl fc))]) (sz := s.heap.size) hnd rfl
  have hnR : (([(xo, .inr (8, [.ref gg, .ref tr, .ref ti, .ref s2, .ref s3, .ref n2])), (gg, .inr (1, [.ref gr])), (gr, .inr (2, [.ref ce])), (s2, .inr (4, [.ref a2, .int (nI m)])), (a2, .inl (cS2, 40, .inr (.inr (.inr (.inr fk)))))] ++ (EW ea wa pf cn dp oc ic lf pt n ++ WW wa wd n) : va_W).map (·.1)).Nodup := by rw [show ([(xo, .inr (8, [.ref gg, .ref tr, .ref ti, .ref s2, .ref s3, .ref n2])), (gg, .inr (1, [.ref gr])), (gr, .inr (2, [.ref ce])), (s2, .inr (4, [.ref a2, .int (nI m)])), (a2, .inl (cS2, 40, .inr (.inr (.inr (.inr fk)))))] ++ (EW ea wa pf cn dp oc ic lf pt n ++ WW wa wd n) : va_W).map (·.1) = ([xo, gg, gr, s2, a2] ++ (rg ea n ++ rg wa n)) from (by rw [List.map_append, List.map_append, EW_fst, WW_fst]; rfl)]; exact (List.nodup_append.mp hnd).2.1
  have hA : ∀ q : Nat, s.heap.size ≤ q → va_A [(ce, .inl (cG, 121, .inl fc))] s.heap.size q := fun q h => Or.inr h
  generalize hAe : va_A [(ce, .inl (cG, 121, .inl fc))] s.heap.size = A at hna hD hA hZ ⊢
  have hS : va_S A s.heap s.heap [] := va_S.rf
  have hR := hR0
  have hP : va_P D vwCl [(ce, .inl (cG, 121, .inl fc))] s.heap := hP
  obtain ⟨⟨tR, hZR, hTR⟩, ⟨tP, hZP, hTP⟩, hUS, hSS⟩ := id hZ
  have hl := lv_entry ([.ref xo, .long (lN a), .int x9]) (n := 8) (Nat.le_of_ble_eq_true rfl)
  rw [lg_entry_eq]
  generalize (lg_sl ([.ref xo, .long (lN a), .int x9]) ++ List.replicate (8 - (lg_sl ([.ref xo, .long (lN a), .int x9])).length) Slot.unset).toArray = ls at hl ⊢
  have hl : lv_has ls 8 [(0, .ref xo), (1, .long (lN a)), (3, .int x9)] := hl
  refine lv_lload_n hx hb dX9_falseCandidates_0 rfl (lv_at hl 1 rfl) ?_
  have hF := va_free (wc := []) hD hS hA [] rfl
  refine vx_callq (vx_runS (As := [.long (lN a)]) (rest := []) ⟨hx, hb, hml, hown, hts⟩ (c_X9_wordOf (l := l) (D := D) (a := a) (sz := s.heap.size) (hnd := (q_nds (q_ndl hnd) [] rfl rfl)) (hst := hst) (ha := ha)) (va_cwS 1 hts gX9_falseCandidates_X9_wordOf rfl rfl rfl (by decide +kernel) ⟨Nat.le_of_ble_eq_true rfl, Nat.le_of_ble_eq_true rfl⟩) ⟨qWx_blind, (qWx_of (q_Pof (fun _ h => absurd h List.not_mem_nil)) (q_Pof (fun _ h => absurd h List.not_mem_nil)) (hK.sub (tys' := []) [] rfl) hNw (qZ_at hZ hS (fun q h => hF q h)) hXt)⟩ rfl rfl hl.1 rfl (lv_room (Nat.le_of_ble_eq_true rfl)) dX9_falseCandidates_1 ⟨Nat.le_of_ble_eq_true rfl, Nat.le_of_ble_eq_true rfl⟩) hS (fun q _ h => hF q h) hF (fun q _ h => hF q h) (fun E9 ce9 q9 u9 t9 H9 locs9 ht9 hvm9 hpx9 hBX9 hz9 hk9 hS9 hc9 hv9 hcl9 => ?_) (fun r_1 u_5 t_4 H_2 locs_3 ht hvm hr_1 hB hz1 hk1 hS => ?_)
  · obtain ⟨hE9, hW9⟩ := hBX9
    exact vx_out (fun x9 h9 => (htab x9 h9).elim) hlocks hc9 hv9 hcl9 (fun t8 ht8 hvm8 => ⟨(), trivial, ⟨⟨hE9.1, fun h9 => hE9.2 h9.1⟩, by show va_P D vwCl _ t8.heap; rw [ht8]; exact (q_keepP hP hk9 q_A0)⟩, ⟨by rw [ht8]; exact hS9.1, fun q8 a8 b8 => by rw [ht8]; exact hS9.2.1 q8 a8 b8⟩⟩) hS9.2.2 (Nat.le_of_ble_eq_true rfl) (Nat.le_of_ble_eq_true rfl)
  skip
  obtain ⟨w9_6, rfl⟩ : ∃ z, z = u_5 := ⟨_, rfl⟩
  obtain ⟨hB1, hB2, hB3⟩ := hB
  replace hB1 : va_P D vwCl ([] ++ [(w9_6, .inr (7, [.long (lN a), .int (nI (wl a)), .long (lN (al a))]))]) H_2 := by rw [← ht]; exact hB1
  obtain ⟨hP, hD⟩ := q_joinN (wc := []) (w1 := []) (wn := [(w9_6, .inr (7, [.long (lN a), .int (nI (wl a)), .long (lN (al a))]))]) (ws' := [(ce, .inl (cG, 121, .inl fc))]) [] hP hD rfl rfl hk1 hF hB1 hB2 rfl
  have hK : va_K D vwCl [(cG, .int), (cS2, .object "FuzzyFens$Entry")] s := hK.app (va_K.moved hvm.symm hB3)
  have hP : va_P D vwCl [(ce, .inl (cG, 121, .inl fc)), (w9_6, .inr (7, [.long (lN a), .int (nI (wl a)), .long (lN (al a))]))] H_2 := hP
  have hD : va_D A [(ce, .inl (cG, 121, .inl fc)), (w9_6, .inr (7, [.long (lN a), .int (nI (wl a)), .long (lN (al a))]))] := hD
  have hR := q_ro hR0 hna hS
  obtain ⟨rfl, hgw⟩ := hr_1
  refine q_cvv (show va_rf (some w9_6) = .ref w9_6 from rfl) ?_
  refine lv_astore (lv' := [(4, .ref w9_6), (0, .ref xo), (1, .long (lN a)), (3, .int x9)]) hx hb dX9_falseCandidates_4 hl (by decide) rfl (fun ls hl => ?_)
  refine lv_iload_n hx hb dX9_falseCandidates_6 rfl (lv_at hl 3 rfl) ?_
  refine lv_iconst (v := nI 0) hx hb dX9_falseCandidates_7 (by decide) ?_
  refine lv_iconst (v := nI 2) hx hb dX9_falseCandidates_8 (by decide) ?_
  have hF := va_free (wc := []) hD hS hA [] rfl
  refine vx_callv (vx_runS (As := [.int x9, .int (nI 0), .int (nI 2)]) (rest := []) ⟨hx, hb, hml, hown, hts⟩ (c_X9_checkWithin (l := l) (D := D) (x9 := x9) (lo := 0) (hi := 2) (sz := H_2.size) (hnd := (q_nds (q_ndl (q_ndg (l1 := [ce, w9_6]) (l2 := ([xo, gg, gr, s2, a2] ++ (rg ea n ++ rg wa n))) hD hnR hna rfl (by rw [List.map_append, List.map_append, EW_fst, WW_fst]; rfl))) [] rfl rfl)) (hst := hst) (hlo := by omega) (hhi := by omega)) (va_cwS 3 hts gX9_falseCandidates_X9_checkWithin rfl rfl rfl (by decide +kernel) ⟨Nat.le_of_ble_eq_true rfl, Nat.le_of_ble_eq_true rfl⟩) ⟨qWx_blind, (qWx_of (q_Pof (fun _ h => absurd h List.not_mem_nil)) (q_Pof (fun _ h => absurd h List.not_mem_nil)) (hK.sub (tys' := []) [] rfl) hNw (qZ_at hZ hS (fun q h => hF q h)) hXt)⟩ rfl rfl hl.1 rfl (lv_room (Nat.le_of_ble_eq_true rfl)) dX9_falseCandidates_9 ⟨Nat.le_of_ble_eq_true rfl, Nat.le_of_ble_eq_true rfl⟩) hS (fun q _ h => hF q h) hF (fun q _ h => hF q h) (fun E9 ce9 q9 u9 t9 H9 locs9 ht9 hvm9 hpx9 hBX9 hz9 hk9 hS9 hc9 hv9 hcl9 => ?_) (fun u_11 t_10 H_8 locs_9 ht hvm hr_7 hB hz1 hk1 hS => ?_)
  · obtain ⟨hE9, hW9⟩ := hBX9
    exact vx_out (fun x9 h9 => (htab x9 h9).elim) hlocks hc9 hv9 hcl9 (fun t8 ht8 hvm8 => ⟨(), trivial, ⟨⟨hE9.1, fun h9 => hE9.2 h9.2⟩, by show va_P D vwCl _ t8.heap; rw [ht8]; exact (va_P.sub (ws' := [(ce, .inl (cG, 121, .inl fc))]) (q_keepP hP hk9 q_A0) [0] rfl)⟩, ⟨by rw [ht8]; exact hS9.1, fun q8 a8 b8 => by rw [ht8]; exact hS9.2.1 q8 a8 b8⟩⟩) hS9.2.2 (Nat.le_of_ble_eq_true rfl) (Nat.le_of_ble_eq_true rfl)
  skip
  replace hB : va_P D vwCl [] H_8 := by rw [← ht]; exact hB
  obtain ⟨hP, hD⟩ := q_join (wc := []) (w1 := []) (ws' := [(ce, .inl (cG, 121, .inl fc)), (w9_6, .inr (7, [.long (lN a), .int (nI (wl a)), .long (lN (al a))]))]) [] hP hD rfl rfl hk1 hB rfl
  have hR := q_ro hR0 hna hS
  have hcw := hr_7
  have hkk := kz_le (m := 2) (by decide) hcw.1 hcw.2
  have hl : lv_has ls 8 [(4, .ref w9_6), (0, .ref xo), (1, .long (lN a)), (3, .int (nI (kz x9)))] := (congrArg (fun v9 => lv_has ls 8 [(4, .ref w9_6), (0, .ref xo), (1, .long (lN a)), (3, .int v9)]) (kz_of hcw.1)).mp hl
  refine lv_iconst (v := nI 0) hx hb dX9_falseCandidates_12 (by decide) ?_
  refine lv_istore (lv' := [(5, .int (nI 0)), (4, .ref w9_6), (0, .ref xo), (1, .long (lN a)), (3, .int (nI (kz x9)))]) hx hb dX9_falseCandidates_13 hl (by decide) rfl (fun ls hl => ?_)
  refine lv_iconst (v := nI 0) hx hb dX9_falseCandidates_15 (by decide) ?_
  refine lv_istore (lv' := [(6, .int (nI 0)), (5, .int (nI 0)), (4, .ref w9_6), (0, .ref xo), (1, .long (lN a)), (3, .int (nI (kz x9)))]) hx hb dX9_falseCandidates_16 hl (by decide) rfl (fun ls hl => ?_)
  refine q_loop (fun (x : (Nat) × (Nat → Int32)) (H : Heap) (locs : List Loc) (ls : Array Slot) => match x with | (i, fc1) => (i ≤ m) ∧ va_P D vwCl [(ce, .inl (cG, 121, .inl fc1)), (w9_6, .inr (7, [.long (lN a), .int (nI (wl a)), .long (lN (al a))]))] H ∧ va_D A [(ce, .inl (cG, 121, .inl fc1)), (w9_6, .inr (7, [.long (lN a), .int (nI (wl a)), .long (lN (al a))]))] ∧ va_S A s.heap H locs ∧ lv_has ls 8 [(6, .int (nI i)), (5, .int (nI (cnt (fun j => decide (cdk wd a (kz x9) (ki j) ∧ ¬ dst wd a (ki j) ≤ kz x9)) i))), (4, .ref w9_6), (0, .ref xo), (1, .long (lN a)), (3, .int (nI (kz x9)))]) (fun (x : (Nat) × (Nat → Int32)) => match x with | (i, fc1) => m - i) (0, fc) ⟨(by omega), hP, hD, hS, (lv_sub hl [0, 1, 2, 3, 4, 5] rfl)⟩ ?_
  clear hl
  clear hP hD hS
  rintro ⟨i, fc1⟩ H locs ls hI ih_18
  obtain ⟨hi, hP, hD, hS, hl⟩ := hI
  have hR := q_ro hR0 hna hS
  refine lv_iload hx hb dX9_falseCandidates_18 (lv_at hl 0 rfl) ?_
  refine lv_aload_n hx hb dX9_falseCandidates_20 rfl (lv_at hl 3 rfl) ?_
  refine va_get (D := D) (own := RX9) (ref := "FuzzyFens") (ci := 8) (v := .ref s2) (C := RX9) (T := TX9) (N := 6) hx hb hts iX9_falseCandidates_X9 hown hK hR 0 rfl rfl 3 (by decide) (hts (.fieldLink RX9 33 "FuzzyFens" "knownWords" "LFuzzyFens$Shelf;") (List.mem_of_getElem? (i := 1) rfl)) (fun _ h9 => h9) rfl dX9_falseCandidates_21 ?_
  refine vp_callSi (W.runV (As := []) (rest := [.int (nI i)]) ⟨hx, hb, hml, hown, hts⟩ (c_X5_size (l := l) (D := D) (sh := s2) (ar := a2) (m := m) ) (cwV 0 hts gX9_falseCandidates_X5_size rfl rfl rfl (by decide +kernel) ⟨Nat.le_of_ble_eq_true rfl, Nat.le_of_ble_eq_true rfl⟩) ⟨qP_blind, (va_recv hK hR (ci := 4) (q0 := 3) rfl rfl), (qP_of (hR.sub (ws' := [(s2, .inr (4, [.ref a2, .int (nI m)]))]) [3] rfl) (hK.sub (tys' := []) [] rfl) hNw)⟩ rfl rfl hl.1 rfl (lv_room (Nat.le_of_ble_eq_true rfl)) dX9_falseCandidates_24 ⟨Nat.le_of_ble_eq_true rfl, Nat.le_of_ble_eq_true rfl⟩) (fun r_12 hr_12 => ?_)
  subst hr_12
  refine q_icmp_ge (a := i) (b := m) (tgt := 74) hx hb dX9_falseCandidates_27 (by decide) (by omega) (by omega) (fun c_27 => ?_) (fun c_27 => ?_)
  · skip
    refine lv_iload hx hb dX9_falseCandidates_74 (lv_at hl 1 rfl) ?_
    refine vx_ret ?_
    refine W.widen (k := 2) (n := 12) (Nat.le_of_ble_eq_true rfl) (Nat.le_of_ble_eq_true rfl) ?_
    exact W.iret (v := nI (cnt (fun j => decide (cdk wd a (kz x9) (ki j) ∧ ¬ dst wd a (ki j) ≤ kz x9)) i)) hx hb hr (fun t9 ht hW => ⟨⟨nI (cnt (fun j => decide (cdk wd a (kz x9) (ki j) ∧ ¬ dst wd a (ki j) ≤ kz x9)) i), fc1, rfl, ⟨(by rw [show m = i by omega]), ⟨hgw, hcw⟩⟩, by show va_P D vwCl _ t9.heap; rw [ht]; exact (va_P.sub (ws' := [(ce, .inl (cG, 121, .inl fc1))]) hP [0] rfl)⟩, hS.F ht⟩) hS.2.2 dX9_falseCandidates_76
  · skip
    refine lv_aload_n hx hb dX9_falseCandidates_30 rfl (lv_at hl 3 rfl) ?_
    refine va_get (D := D) (own := RX9) (ref := "FuzzyFens") (ci := 8) (v := .ref s2) (C := RX9) (T := TX9) (N := 6) hx hb hts iX9_falseCandidates_X9 hown hK hR 0 rfl rfl 3 (by decide) (hts (.fieldLink RX9 33 "FuzzyFens" "knownWords" "LFuzzyFens$Shelf;") (List.mem_of_getElem? (i := 1) rfl)) (fun _ h9 => h9) rfl dX9_falseCandidates_31 ?_
    refine lv_iload hx hb dX9_falseCandidates_34 (lv_at hl 0 rfl) ?_
    refine va_csq (W.runV (As := [.int (nI i)]) (rest := []) ⟨hx, hb, hml, hown, hts⟩ (c_X5_at (l := l) (D := D) (sh := s2) (ar := a2) (cS := cS2) (f := fk) (m := m) (i := i) (hi := by omega) (hm := hm)) (cwV 1 hts gX9_falseCandidates_X5_at rfl rfl rfl (by decide +kernel) ⟨Nat.le_of_ble_eq_true rfl, Nat.le_of_ble_eq_true rfl⟩) ⟨qP_blind, (va_recv hK hR (ci := 4) (q0 := 3) rfl rfl), (qP_of (hR.sub (ws' := [(s2, .inr (4, [.ref a2, .int (nI m)])), (a2, .inl (cS2, 40, .inr (.inr (.inr (.inr fk)))))]) [3, 4] rfl) (hK.sub (tys' := [(cS2, .object "FuzzyFens$Entry")]) [1] rfl) hNw)⟩ rfl rfl hl.1 rfl (lv_room (Nat.le_of_ble_eq_true rfl)) dX9_falseCandidates_36 ⟨Nat.le_of_ble_eq_true rfl, Nat.le_of_ble_eq_true rfl⟩) (fun r_13 hr_13 => ?_)
    subst hr_13
    have e9 : fk i = some (ea (ki i)) := hf _ (by omega)
    have hk9 := hki i (by omega)
    refine q_cvv (show va_rf (fk i) = .ref (ea (ki i)) from (by rw [e9]; rfl)) ?_
    refine lv_astore (lv' := [(7, .ref (ea (ki i))), (6, .int (nI i)), (5, .int (nI (cnt (fun j => decide (cdk wd a (kz x9) (ki j) ∧ ¬ dst wd a (ki j) ≤ kz x9)) i))), (4, .ref w9_6), (0, .ref xo), (1, .long (lN a)), (3, .int (nI (kz x9)))]) hx hb dX9_falseCandidates_39 hl (by decide) rfl (fun ls hl => ?_)
    refine lv_aload_n hx hb dX9_falseCandidates_41 rfl (lv_at hl 4 rfl) ?_
    refine lv_aload hx hb dX9_falseCandidates_42 (lv_at hl 0 rfl) ?_
    refine lv_aload hx hb dX9_falseCandidates_44 (lv_at hl 3 rfl) ?_
    refine lv_iload_n hx hb dX9_falseCandidates_46 rfl (lv_at hl 6 rfl) ?_
    have hF := va_free (wc := [(ce, .inl (cG, 121, .inl fc1))]) hD hS hA [0] rfl
    refine va_calli (va_runV (As := [.ref (ea (ki i)), .ref w9_6, .int (nI (kz x9))]) (rest := []) ⟨hx, hb, hml, hown, hts⟩ (c_X9_isCandidate (l := l) (D := D) (xo := xo) (gg := gg) (gr := gr) (ce := ce) (tr := tr) (sh := sh) (ar := ar) (ti := ti) (n1 := n1) (l1 := l1) (s2 := s2) (a2 := a2) (s3 := s3) (a3 := a3) (n2 := n2) (l2 := l2) (cG := cG) (fc := fc1) (w0 := w9_6) (v := a) (i := (ki i)) (k := kz x9) (ea := ea) (wa := wa) (pf := pf) (cn := cn) (dp := dp) (oc := oc) (ic := ic) (lf := lf) (pt := pt) (wd := wd) (n := n) (sz := H.size) (hnd := (q_ndt (q_ndg (l1 := [ce, w9_6]) (l2 := ([xo, gg, gr, s2, a2] ++ (rg ea n ++ rg wa n))) hD hnR hna rfl (by rw [List.map_append, List.map_append, EW_fst, WW_fst]; rfl)) [0, 2, 3, 4, 1] rfl rfl)) (hg := hg) (hgv := hgw) (hi := hk9) (hk3 := by omega)) (cwV 3 hts gX9_falseCandidates_X9_isCandidate rfl rfl rfl (by decide +kernel) ⟨Nat.le_of_ble_eq_true rfl, Nat.le_of_ble_eq_true rfl⟩) ⟨qW_blind, (va_recv hK hR (ci := 8) (q0 := 0) rfl rfl), (qW_of (va_P.app (show va_P D vwCl [(xo, .inr (8, [.ref gg, .ref tr, .ref ti, .ref s2, .ref s3, .ref n2])), (gg, .inr (1, [.ref gr])), (gr, .inr (2, [.ref ce])), (w9_6, .inr (7, [.long (lN a), .int (nI (wl a)), .long (lN (al a))]))] _ from (va_P.app (hR.sub (ws' := [(xo, .inr (8, [.ref gg, .ref tr, .ref ti, .ref s2, .ref s3, .ref n2]))]) [0] rfl) (va_P.app (hR.sub (ws' := [(gg, .inr (1, [.ref gr]))]) [1] rfl) (va_P.app (hR.sub (ws' := [(gr, .inr (2, [.ref ce]))]) [2] rfl) (hP.sub (ws' := [(w9_6, .inr (7, [.long (lN a), .int (nI (wl a)), .long (lN (al a))]))]) [1] rfl))))) (q_right hR)) (hP.sub (ws' := [(ce, .inl (cG, 121, .inl fc1))]) [0] rfl) (hK.sub (tys' := [(cG, .int)]) [0] rfl) hNw)⟩ rfl rfl hl.1 rfl (lv_room (Nat.le_of_ble_eq_true rfl)) dX9_falseCandidates_47 ⟨Nat.le_of_ble_eq_true rfl, Nat.le_of_ble_eq_true rfl⟩) hS (fun q _ h => hF q h) hF (fun r_14 u_18 t_17 H_15 locs_16 ht hvm hr_14 hB hz1 hk1 hS => ?_)
    obtain ⟨fc2_19, rfl⟩ : ∃ z, z = u_18 := ⟨_, rfl⟩
    replace hB : va_P D vwCl [(ce, .inl (cG, 121, .inl fc2_19))] H_15 := by rw [← ht]; exact hB
    obtain ⟨hP, hD⟩ := q_join (wc := [(ce, .inl (cG, 121, .inl fc1))]) (w1 := [(ce, .inl (cG, 121, .inl fc2_19))]) (ws' := [(ce, .inl (cG, 121, .inl fc2_19)), (w9_6, .inr (7, [.long (lN a), .int (nI (wl a)), .long (lN (al a))]))]) [0] hP hD rfl rfl hk1 hB rfl
    have hR := q_ro hR0 hna hS
    subst hr_14
    refine q_ifb_eq (tgt := 68) hx hb dX9_falseCandidates_50 (by decide) (fun c_50 => ?_) (fun c_50 => ?_)
    · skip
      refine lv_iinc (v := nI (i + 1)) (lv' := [(6, .int (nI (i + 1))), (7, .ref (ea (ki i))), (5, .int (nI (cnt (fun j => decide (cdk wd a (kz x9) (ki j) ∧ ¬ dst wd a (ki j) ≤ kz x9)) i))), (4, .ref w9_6), (0, .ref xo), (1, .long (lN a)), (3, .int (nI (kz x9)))]) hx hb dX9_falseCandidates_68 hl (k := 1) rfl (q_inc (k := 1) (by omega)) (by decide) rfl (fun ls hl => ?_)
      refine lv_goto (tgt := 18) hx hb dX9_falseCandidates_71 (by decide) ?_
      rw [show cnt (fun j => decide (cdk wd a (kz x9) (ki j) ∧ ¬ dst wd a (ki j) ≤ kz x9)) i = cnt (fun j => decide (cdk wd a (kz x9) (ki j) ∧ ¬ dst wd a (ki j) ≤ kz x9)) (i + 1) from (cnt_f (by rw [decide_eq_true_eq]; exact fun h9 => c_50 h9.1)).symm] at hl
      exact ih_18 (i + 1, fc2_19) _ _ _ ⟨(by omega), hP, hD, hS, (lv_sub hl [0, 2, 3, 4, 5, 6] rfl)⟩ (by show m - (i + 1) < m - i; omega)
    · skip
      refine lv_aload_n hx hb dX9_falseCandidates_53 rfl (lv_at hl 4 rfl) ?_
      refine lv_aload hx hb dX9_falseCandidates_54 (lv_at hl 0 rfl) ?_
      refine lv_aload hx hb dX9_falseCandidates_56 (lv_at hl 3 rfl) ?_
      refine lv_iload_n hx hb dX9_falseCandidates_58 rfl (lv_at hl 6 rfl) ?_
      have hF := va_free (wc := [(ce, .inl (cG, 121, .inl fc2_19))]) hD hS hA [0] rfl
      refine va_calli (va_runV (As := [.ref (ea (ki i)), .ref w9_6, .int (nI (kz x9))]) (rest := []) ⟨hx, hb, hml, hown, hts⟩ (c_X9_isCorrection (l := l) (D := D) (xo := xo) (gg := gg) (gr := gr) (ce := ce) (tr := tr) (sh := sh) (ar := ar) (ti := ti) (n1 := n1) (l1 := l1) (s2 := s2) (a2 := a2) (s3 := s3) (a3 := a3) (n2 := n2) (l2 := l2) (cG := cG) (fc := fc2_19) (w0 := w9_6) (v := a) (i := (ki i)) (k := kz x9) (ea := ea) (wa := wa) (pf := pf) (cn := cn) (dp := dp) (oc := oc) (ic := ic) (lf := lf) (pt := pt) (wd := wd) (n := n) (sz := H_15.size) (hnd := (q_ndt (q_ndg (l1 := [ce, w9_6]) (l2 := ([xo, gg, gr, s2, a2] ++ (rg ea n ++ rg wa n))) hD hnR hna rfl (by rw [List.map_append, List.map_append, EW_fst, WW_fst]; rfl)) [0, 2, 3, 4, 1] rfl rfl)) (hg := hg) (hgv := hgw) (hi := hk9) (hk3 := by omega)) (cwV 3 hts gX9_falseCandidates_X9_isCorrection rfl rfl rfl (by decide +kernel) ⟨Nat.le_of_ble_eq_true rfl, Nat.le_of_ble_eq_true rfl⟩) ⟨qW_blind, (va_recv hK hR (ci := 8) (q0 := 0) rfl rfl), (qW_of (va_P.app (show va_P D vwCl [(xo, .inr (8, [.ref gg, .ref tr, .ref ti, .ref s2, .ref s3, .ref n2])), (gg, .inr (1, [.ref gr])), (gr, .inr (2, [.ref ce])), (w9_6, .inr (7, [.long (lN a), .int (nI (wl a)), .long (lN (al a))]))] _ from (va_P.app (hR.sub (ws' := [(xo, .inr (8, [.ref gg, .ref tr, .ref ti, .ref s2, .ref s3, .ref n2]))]) [0] rfl) (va_P.app (hR.sub (ws' := [(gg, .inr (1, [.ref gr]))]) [1] rfl) (va_P.app (hR.sub (ws' := [(gr, .inr (2, [.ref ce]))]) [2] rfl) (hP.sub (ws' := [(w9_6, .inr (7, [.long (lN a), .int (nI (wl a)), .long (lN (al a))]))]) [1] rfl))))) (q_right hR)) (hP.sub (ws' := [(ce, .inl (cG, 121, .inl fc2_19))]) [0] rfl) (hK.sub (tys' := [(cG, .int)]) [0] rfl) hNw)⟩ rfl rfl hl.1 rfl (lv_room (Nat.le_of_ble_eq_true rfl)) dX9_falseCandidates_59 ⟨Nat.le_of_ble_eq_true rfl, Nat.le_of_ble_eq_true rfl⟩) hS (fun q _ h => hF q h) hF (fun r_20 u_24 t_23 H_21 locs_22 ht hvm hr_20 hB hz1 hk1 hS => ?_)
      obtain ⟨fc2_25, rfl⟩ : ∃ z, z = u_24 := ⟨_, rfl⟩
      replace hB : va_P D vwCl [(ce, .inl (cG, 121, .inl fc2_25))] H_21 := by rw [← ht]; exact hB
      obtain ⟨hP, hD⟩ := q_join (wc := [(ce, .inl (cG, 121, .inl fc2_19))]) (w1 := [(ce, .inl (cG, 121, .inl fc2_25))]) (ws' := [(ce, .inl (cG, 121, .inl fc2_25)), (w9_6, .inr (7, [.long (lN a), .int (nI (wl a)), .long (lN (al a))]))]) [0] hP hD rfl rfl hk1 hB rfl
      have hR := q_ro hR0 hna hS
      subst hr_20
      refine q_ifb_ne (tgt := 68) hx hb dX9_falseCandidates_62 (by decide) (fun c_62 => ?_) (fun c_62 => ?_)
      · skip
        refine lv_iinc (v := nI (i + 1)) (lv' := [(6, .int (nI (i + 1))), (7, .ref (ea (ki i))), (5, .int (nI (cnt (fun j => decide (cdk wd a (kz x9) (ki j) ∧ ¬ dst wd a (ki j) ≤ kz x9)) i))), (4, .ref w9_6), (0, .ref xo), (1, .long (lN a)), (3, .int (nI (kz x9)))]) hx hb dX9_falseCandidates_68 hl (k := 1) rfl (q_inc (k := 1) (by omega)) (by decide) rfl (fun ls hl => ?_)
        refine lv_goto (tgt := 18) hx hb dX9_falseCandidates_71 (by decide) ?_
        rw [show cnt (fun j => decide (cdk wd a (kz x9) (ki j) ∧ ¬ dst wd a (ki j) ≤ kz x9)) i = cnt (fun j => decide (cdk wd a (kz x9) (ki j) ∧ ¬ dst wd a (ki j) ≤ kz x9)) (i + 1) from (cnt_f (by rw [decide_eq_true_eq]; exact fun h9 => h9.2 c_62)).symm] at hl
        exact ih_18 (i + 1, fc2_25) _ _ _ ⟨(by omega), hP, hD, hS, (lv_sub hl [0, 2, 3, 4, 5, 6] rfl)⟩ (by show m - (i + 1) < m - i; omega)
      · skip
        refine lv_iinc (v := nI (cnt (fun j => decide (cdk wd a (kz x9) (ki j) ∧ ¬ dst wd a (ki j) ≤ kz x9)) i + 1)) (lv' := [(5, .int (nI (cnt (fun j => decide (cdk wd a (kz x9) (ki j) ∧ ¬ dst wd a (ki j) ≤ kz x9)) i + 1))), (7, .ref (ea (ki i))), (6, .int (nI i)), (4, .ref w9_6), (0, .ref xo), (1, .long (lN a)), (3, .int (nI (kz x9)))]) hx hb dX9_falseCandidates_65 hl (k := 2) rfl (q_inc (k := 1) (by omega)) (by decide) rfl (fun ls hl => ?_)
        refine lv_iinc (v := nI (i + 1)) (lv' := [(6, .int (nI (i + 1))), (5, .int (nI (cnt (fun j => decide (cdk wd a (kz x9) (ki j) ∧ ¬ dst wd a (ki j) ≤ kz x9)) i + 1))), (7, .ref (ea (ki i))), (4, .ref w9_6), (0, .ref xo), (1, .long (lN a)), (3, .int (nI (kz x9)))]) hx hb dX9_falseCandidates_68 hl (k := 2) rfl (q_inc (k := 1) (by omega)) (by decide) rfl (fun ls hl => ?_)
        refine lv_goto (tgt := 18) hx hb dX9_falseCandidates_71 (by decide) ?_
        rw [show cnt (fun j => decide (cdk wd a (kz x9) (ki j) ∧ ¬ dst wd a (ki j) ≤ kz x9)) i + 1 = cnt (fun j => decide (cdk wd a (kz x9) (ki j) ∧ ¬ dst wd a (ki j) ≤ kz x9)) (i + 1) from (cnt_t (by rw [decide_eq_true_eq]; exact ⟨c_50, c_62⟩)).symm] at hl
        exact ih_18 (i + 1, fc2_25) _ _ _ ⟨(by omega), hP, hD, hS, (lv_sub hl [0, 1, 3, 4, 5, 6] rfl)⟩ (by show m - (i + 1) < m - i; omega)

set_option maxRecDepth 20000 in
theorem iX9_nearest_X0 : ∀ w ∈ wsX00, w ∈ wsX9_nearest := by decide +kernel
set_option maxRecDepth 20000 in
theorem iX9_nearest_X9 : ∀ w ∈ wsX90, w ∈ wsX9_nearest := by decide +kernel
set_option maxHeartbeats 4000000 in
set_option maxRecDepth 100000 in
/-- nearest -/
theorem c_X9_nearest (l : Launch) (D : va_G) (sz : Nat) (xo : Nat) (gg : Nat) (gr : Nat) (ce : Nat) (tr : Nat) (sh : Nat) (ar : Nat) (ti : Nat) (n1 : Nat) (l1 : Nat) (s2 : Nat) (a2 : Nat) (s3 : Nat) (a3 : Nat) (n2 : Nat) (l2 : Nat) (cS2 : ClassId) (fk : Nat → Option Nat) (m : Nat) (ki : Nat → Nat) (ea : Nat → Nat) (wa : Nat → Nat) (pf : Nat → Option Nat) (cn : Nat → Nat) (dp : Nat → Nat) (oc : Nat → Nat) (ic : Nat → Int32) (lf : Nat → Int32) (pt : Nat → Int32) (wd : Nat → Nat) (n : Nat) (cG : ClassId) (fc : Nat → Int32) (a : Nat) (hst : l.stackTraces = false) (hnd : ([ce] ++ ([xo, gg, gr, s2, a2] ++ (rg ea n ++ rg wa n))).Nodup) (ha : a < 2 ^ 64) (hm : m ≤ 40) (hf : ∀ j, j < m → fk j = some (ea (ki j))) (hki : ∀ j, j < m → ki j < n) (hg : ∀ k, k < n → gw (wd k)) : vx_Met l yX9_nearest wsX9_nearest { frames := 7, cells := 1, slots := 6, locals := 103 } (va_Pc [.ref xo, .long (lN a)] (qWx D sz ([(xo, .inr (8, [.ref gg, .ref tr, .ref ti, .ref s2, .ref s3, .ref n2])), (gg, .inr (1, [.ref gr])), (gr, .inr (2, [.ref ce])), (s2, .inr (4, [.ref a2, .int (nI m)])), (a2, .inl (cS2, 40, .inr (.inr (.inr (.inr fk)))))] ++ (EW ea wa pf cn dp oc ic lf pt n ++ WW wa wd n)) [(ce, .inl (cG, 121, .inl fc))] [(cG, .int), (cS2, .object "FuzzyFens$Entry")])) (va_Qi (fun (rv : Int32) (uv : (Nat → Int32)) => rv = pin (nrk wd ki a m) ∧ gw a) (fun (uv : (Nat → Int32)) (tv : State) => va_P D vwCl [(ce, .inl (cG, 121, .inl uv))] tv.heap) (va_A [(ce, .inl (cG, 121, .inl fc))] sz)) (vx_X (fun _ : Unit => True) (fun (E9 : String) (uv : Unit) (tv : State) => ((E9 = q_IA ∧ (¬ gw a))) ∧ va_P D vwCl ([(ce, .inl (cG, 121, .inl fc))]) tv.heap) (va_A [(ce, .inl (cG, 121, .inl fc))] sz)) 1 6 (va_A [(ce, .inl (cG, 121, .inl fc))] sz) := by
  refine vx_ofW (cc := cX9_nearest) (maxL := 8) (ret := (some .int)) (by decide) rfl ?_
  intro pM eM s mi9 argsM belowM methM cM sM B hml htab hv
  obtain ⟨rfl, hsz, hR0, hP, hK, hNw, hZ, hXt⟩ := hv
  have hx := B.exec
  have hb := B.bytes
  have hr := B.returns
  have hts := atoms_spec (ws := wsX9_nearest) B.pre
  have hown : s.vm.findClass RX9 = some mi9.cls := findClass_of_methodNamed B.named
  have hlocks := B.notSynchronized
  subst hsz
  have hna := q_na (RW := [(ce, .inl (cG, 121, .inl fc))]) (RO := [(xo, .inr (8, [.ref gg, .ref tr, .ref ti, .ref s2, .ref s3, .ref n2])), (gg, .inr (1, [.ref gr])), (gr, .inr (2, [.ref ce])), (s2, .inr (4, [.ref a2, .int (nI m)])), (a2, .inl (cS2, 40, .inr (.inr (.inr (.inr fk)))))] ++ (EW ea wa pf cn dp oc ic lf pt n ++ WW wa wd n)) hnd rfl (by rw [List.map_append, List.map_append, EW_fst, WW_fst]; rfl) hR0
  have hD := q_D (RW := [(ce, .inl (cG, 121, .inl fc))]) (sz := s.heap.size) hnd rfl
  have hnR : (([(xo, .inr (8, [.ref gg, .ref tr, .ref ti, .ref s2, .ref s3, .ref n2])), (gg, .inr (1, [.ref gr])), (gr, .inr (2, [.ref ce])), (s2, .inr (4, [.ref a2, .int (nI m)])), (a2, .inl (cS2, 40, .inr (.inr (.inr (.inr fk)))))] ++ (EW ea wa pf cn dp oc ic lf pt n ++ WW wa wd n) : va_W).map (·.1)).Nodup := by rw [show ([(xo, .inr (8, [.ref gg, .ref tr, .ref ti, .ref s2, .ref s3, .ref n2])), (gg, .inr (1, [.ref gr])), (gr, .inr (2, [.ref ce])), (s2, .inr (4, [.ref a2, .int (nI m)])), (a2, .inl (cS2, 40, .inr (.inr (.inr (.inr fk)))))] ++ (EW ea wa pf cn dp oc ic lf pt n ++ WW wa wd n) : va_W).map (·.1) = ([xo, gg, gr, s2, a2] ++ (rg ea n ++ rg wa n)) from (by rw [List.map_append, List.map_append, EW_fst, WW_fst]; rfl)]; exact (List.nodup_append.mp hnd).2.1
  have hA : ∀ q : Nat, s.heap.size ≤ q → va_A [(ce, .inl (cG, 121, .inl fc))] s.heap.size q := fun q h => Or.inr h
  generalize hAe : va_A [(ce, .inl (cG, 121, .inl fc))] s.heap.size = A at hna hD hA hZ ⊢
  have hS : va_S A s.heap s.heap [] := va_S.rf
  have hR := hR0
  have hP : va_P D vwCl [(ce, .inl (cG, 121, .inl fc))] s.heap := hP
  obtain ⟨⟨tR, hZR, hTR⟩, ⟨tP, hZP, hTP⟩, hUS, hSS⟩ := id hZ
  have hl := lv_entry ([.ref xo, .long (lN a)]) (n := 8) (Nat.le_of_ble_eq_true rfl)
  rw [lg_entry_eq]
  generalize (lg_sl ([.ref xo, .long (lN a)]) ++ List.replicate (8 - (lg_sl ([.ref xo, .long (lN a)])).length) Slot.unset).toArray = ls at hl ⊢
  have hl : lv_has ls 8 [(0, .ref xo), (1, .long (lN a))] := hl
  refine lv_lload_n hx hb dX9_nearest_0 rfl (lv_at hl 1 rfl) ?_
  have hF := va_free (wc := []) hD hS hA [] rfl
  refine vx_callq (vx_runS (As := [.long (lN a)]) (rest := []) ⟨hx, hb, hml, hown, hts⟩ (c_X9_wordOf (l := l) (D := D) (a := a) (sz := s.heap.size) (hnd := (q_nds (q_ndl hnd) [] rfl rfl)) (hst := hst) (ha := ha)) (va_cwS 1 hts gX9_nearest_X9_wordOf rfl rfl rfl (by decide +kernel) ⟨Nat.le_of_ble_eq_true rfl, Nat.le_of_ble_eq_true rfl⟩) ⟨qWx_blind, (qWx_of (q_Pof (fun _ h => absurd h List.not_mem_nil)) (q_Pof (fun _ h => absurd h List.not_mem_nil)) (hK.sub (tys' := []) [] rfl) hNw (qZ_at hZ hS (fun q h => hF q h)) hXt)⟩ rfl rfl hl.1 rfl (lv_room (Nat.le_of_ble_eq_true rfl)) dX9_nearest_1 ⟨Nat.le_of_ble_eq_true rfl, Nat.le_of_ble_eq_true rfl⟩) hS (fun q _ h => hF q h) hF (fun q _ h => hF q h) (fun E9 ce9 q9 u9 t9 H9 locs9 ht9 hvm9 hpx9 hBX9 hz9 hk9 hS9 hc9 hv9 hcl9 => ?_) (fun r_1 u_5 t_4 H_2 locs_3 ht hvm hr_1 hB hz1 hk1 hS => ?_)
  · obtain ⟨hE9, hW9⟩ := hBX9
    exact vx_out (fun x9 h9 => (htab x9 h9).elim) hlocks hc9 hv9 hcl9 (fun t8 ht8 hvm8 => ⟨(), trivial, ⟨hE9, by show va_P D vwCl _ t8.heap; rw [ht8]; exact (q_keepP hP hk9 q_A0)⟩, ⟨by rw [ht8]; exact hS9.1, fun q8 a8 b8 => by rw [ht8]; exact hS9.2.1 q8 a8 b8⟩⟩) hS9.2.2 (Nat.le_of_ble_eq_true rfl) (Nat.le_of_ble_eq_true rfl)
  skip
  obtain ⟨w9_6, rfl⟩ : ∃ z, z = u_5 := ⟨_, rfl⟩
  obtain ⟨hB1, hB2, hB3⟩ := hB
  replace hB1 : va_P D vwCl ([] ++ [(w9_6, .inr (7, [.long (lN a), .int (nI (wl a)), .long (lN (al a))]))]) H_2 := by rw [← ht]; exact hB1
  obtain ⟨hP, hD⟩ := q_joinN (wc := []) (w1 := []) (wn := [(w9_6, .inr (7, [.long (lN a), .int (nI (wl a)), .long (lN (al a))]))]) (ws' := [(ce, .inl (cG, 121, .inl fc))]) [] hP hD rfl rfl hk1 hF hB1 hB2 rfl
  have hK : va_K D vwCl [(cG, .int), (cS2, .object "FuzzyFens$Entry")] s := hK.app (va_K.moved hvm.symm hB3)
  have hP : va_P D vwCl [(ce, .inl (cG, 121, .inl fc)), (w9_6, .inr (7, [.long (lN a), .int (nI (wl a)), .long (lN (al a))]))] H_2 := hP
  have hD : va_D A [(ce, .inl (cG, 121, .inl fc)), (w9_6, .inr (7, [.long (lN a), .int (nI (wl a)), .long (lN (al a))]))] := hD
  have hR := q_ro hR0 hna hS
  obtain ⟨rfl, hgw⟩ := hr_1
  refine q_cvv (show va_rf (some w9_6) = .ref w9_6 from rfl) ?_
  refine lv_astore_n (lv' := [(3, .ref w9_6), (0, .ref xo), (1, .long (lN a))]) hx hb dX9_nearest_4 rfl hl (by decide) rfl (fun ls hl => ?_)
  have hd20 : ∀ j, j < m → dst wd a (ki j) ≤ 20 := fun j hj => dst_20 (gw_wl hgw) (gw_wl (hg _ (hki j hj)))
  refine lv_iconst (v := (-1)) hx hb dX9_nearest_5 (by decide) ?_
  refine lv_istore (lv' := [(4, .int ((-1))), (3, .ref w9_6), (0, .ref xo), (1, .long (lN a))]) hx hb dX9_nearest_6 hl (by decide) rfl (fun ls hl => ?_)
  refine lv_iconst (v := nI 0) hx hb dX9_nearest_8 (by decide) ?_
  refine lv_istore (lv' := [(5, .int (nI 0)), (4, .int ((-1))), (3, .ref w9_6), (0, .ref xo), (1, .long (lN a))]) hx hb dX9_nearest_9 hl (by decide) rfl (fun ls hl => ?_)
  refine q_loop (fun (x : (Nat) × (Nat → Int32)) (H : Heap) (locs : List Loc) (ls : Array Slot) => match x with | (i, fc1) => (i ≤ m) ∧ va_P D vwCl [(ce, .inl (cG, 121, .inl fc1)), (w9_6, .inr (7, [.long (lN a), .int (nI (wl a)), .long (lN (al a))]))] H ∧ va_D A [(ce, .inl (cG, 121, .inl fc1)), (w9_6, .inr (7, [.long (lN a), .int (nI (wl a)), .long (lN (al a))]))] ∧ va_S A s.heap H locs ∧ lv_has ls 8 [(5, .int (nI i)), (4, .int (pin (nrk wd ki a i))), (3, .ref w9_6), (0, .ref xo), (1, .long (lN a))]) (fun (x : (Nat) × (Nat → Int32)) => match x with | (i, fc1) => m - i) (0, fc) ⟨(by omega), hP, hD, hS, (lv_sub hl [0, 1, 2, 3, 4] rfl)⟩ ?_
  clear hl
  clear hP hD hS
  rintro ⟨i, fc1⟩ H locs ls hI ih_11
  obtain ⟨hi, hP, hD, hS, hl⟩ := hI
  have hR := q_ro hR0 hna hS
  refine lv_iload hx hb dX9_nearest_11 (lv_at hl 0 rfl) ?_
  refine lv_aload_n hx hb dX9_nearest_13 rfl (lv_at hl 3 rfl) ?_
  refine va_get (D := D) (own := RX9) (ref := "FuzzyFens") (ci := 8) (v := .ref s2) (C := RX9) (T := TX9) (N := 6) hx hb hts iX9_nearest_X9 hown hK hR 0 rfl rfl 3 (by decide) (hts (.fieldLink RX9 33 "FuzzyFens" "knownWords" "LFuzzyFens$Shelf;") (List.mem_of_getElem? (i := 1) rfl)) (fun _ h9 => h9) rfl dX9_nearest_14 ?_
  refine vp_callSi (W.runV (As := []) (rest := [.int (nI i)]) ⟨hx, hb, hml, hown, hts⟩ (c_X5_size (l := l) (D := D) (sh := s2) (ar := a2) (m := m) ) (cwV 0 hts gX9_nearest_X5_size rfl rfl rfl (by decide +kernel) ⟨Nat.le_of_ble_eq_true rfl, Nat.le_of_ble_eq_true rfl⟩) ⟨qP_blind, (va_recv hK hR (ci := 4) (q0 := 3) rfl rfl), (qP_of (hR.sub (ws' := [(s2, .inr (4, [.ref a2, .int (nI m)]))]) [3] rfl) (hK.sub (tys' := []) [] rfl) hNw)⟩ rfl rfl hl.1 rfl (lv_room (Nat.le_of_ble_eq_true rfl)) dX9_nearest_17 ⟨Nat.le_of_ble_eq_true rfl, Nat.le_of_ble_eq_true rfl⟩) (fun r_7 hr_7 => ?_)
  subst hr_7
  refine q_icmp_ge (a := i) (b := m) (tgt := 80) hx hb dX9_nearest_20 (by decide) (by omega) (by omega) (fun c_20 => ?_) (fun c_20 => ?_)
  · skip
    refine lv_iload hx hb dX9_nearest_80 (lv_at hl 1 rfl) ?_
    refine vx_ret ?_
    refine W.widen (k := 1) (n := 6) (Nat.le_of_ble_eq_true rfl) (Nat.le_of_ble_eq_true rfl) ?_
    exact W.iret (v := pin (nrk wd ki a i)) hx hb hr (fun t9 ht hW => ⟨⟨pin (nrk wd ki a i), fc1, rfl, ⟨(by rw [show m = i by omega]), hgw⟩, by show va_P D vwCl _ t9.heap; rw [ht]; exact (va_P.sub (ws' := [(ce, .inl (cG, 121, .inl fc1))]) hP [0] rfl)⟩, hS.F ht⟩) hS.2.2 dX9_nearest_82
  · skip
    refine lv_aload_n hx hb dX9_nearest_23 rfl (lv_at hl 3 rfl) ?_
    refine va_get (D := D) (own := RX9) (ref := "FuzzyFens") (ci := 8) (v := .ref s2) (C := RX9) (T := TX9) (N := 6) hx hb hts iX9_nearest_X9 hown hK hR 0 rfl rfl 3 (by decide) (hts (.fieldLink RX9 33 "FuzzyFens" "knownWords" "LFuzzyFens$Shelf;") (List.mem_of_getElem? (i := 1) rfl)) (fun _ h9 => h9) rfl dX9_nearest_24 ?_
    refine lv_iload hx hb dX9_nearest_27 (lv_at hl 0 rfl) ?_
    refine va_csq (W.runV (As := [.int (nI i)]) (rest := []) ⟨hx, hb, hml, hown, hts⟩ (c_X5_at (l := l) (D := D) (sh := s2) (ar := a2) (cS := cS2) (f := fk) (m := m) (i := i) (hi := by omega) (hm := hm)) (cwV 1 hts gX9_nearest_X5_at rfl rfl rfl (by decide +kernel) ⟨Nat.le_of_ble_eq_true rfl, Nat.le_of_ble_eq_true rfl⟩) ⟨qP_blind, (va_recv hK hR (ci := 4) (q0 := 3) rfl rfl), (qP_of (hR.sub (ws' := [(s2, .inr (4, [.ref a2, .int (nI m)])), (a2, .inl (cS2, 40, .inr (.inr (.inr (.inr fk)))))]) [3, 4] rfl) (hK.sub (tys' := [(cS2, .object "FuzzyFens$Entry")]) [1] rfl) hNw)⟩ rfl rfl hl.1 rfl (lv_room (Nat.le_of_ble_eq_true rfl)) dX9_nearest_29 ⟨Nat.le_of_ble_eq_true rfl, Nat.le_of_ble_eq_true rfl⟩) (fun r_8 hr_8 => ?_)
    subst hr_8
    have e9 : fk i = some (ea (ki i)) := hf _ (by omega)
    have hk9 := hki i (by omega)
    refine q_cvv (show va_rf (fk i) = .ref (ea (ki i)) from (by rw [e9]; rfl)) ?_
    refine lv_astore (lv' := [(6, .ref (ea (ki i))), (5, .int (nI i)), (4, .int (pin (nrk wd ki a i))), (3, .ref w9_6), (0, .ref xo), (1, .long (lN a))]) hx hb dX9_nearest_32 hl (by decide) rfl (fun ls hl => ?_)
    refine lv_aload hx hb dX9_nearest_34 (lv_at hl 0 rfl) ?_
    refine lv_ifnull hx hb dX9_nearest_36 ?_
    refine lv_aload_n hx hb dX9_nearest_39 rfl (lv_at hl 4 rfl) ?_
    refine va_get (D := D) (own := RX9) (ref := "FuzzyFens") (ci := 8) (v := .ref gg) (C := RX9) (T := TX9) (N := 6) hx hb hts iX9_nearest_X9 hown hK hR 0 rfl rfl 0 (by decide) (hts (.fieldLink RX9 12 "FuzzyFens" "gauge" "LFuzzyFens$Gauge;") (List.mem_of_getElem? (i := 2) rfl)) (fun _ h9 => h9) rfl dX9_nearest_40 ?_
    refine lv_aload hx hb dX9_nearest_43 (lv_at hl 0 rfl) ?_
    refine va_getN (host := "FuzzyFens") (D := D) (own := RX9) (ref := "FuzzyFens$Entry") (ci := 0) (v := .ref (wa (ki i))) (C := RX0) (T := TX0) (N := 8) hx hb hts iX9_nearest_X0 hown hK (E_at hR (ki i) (by omega)) 0 rfl rfl 0 (by decide) (va_Nw.use rfl (hNw.1 ("FuzzyFens", 123, "FuzzyFens$Entry", "word", "LFuzzyFens$Word;") (List.mem_of_getElem? (i := 8) rfl))) (fun _ h9 => h9) rfl dX9_nearest_45 ?_
    refine lv_aload_n hx hb dX9_nearest_48 rfl (lv_at hl 3 rfl) ?_
    have hF := va_free (wc := [(ce, .inl (cG, 121, .inl fc1))]) hD hS hA [0] rfl
    refine va_calli (va_runV (As := [.ref (wa (ki i)), .ref w9_6]) (rest := []) ⟨hx, hb, hml, hown, hts⟩ (c_X1_lettersApart (l := l) (D := D) (g := gg) (gr := gr) (ce := ce) (cG := cG) (f := fc1) (w := wa (ki i)) (v := w9_6) (a := wd (ki i)) (b := a) (sz := H.size) (hnd := (q_ndp (q_ndg (l1 := [ce, w9_6]) (l2 := ([xo, gg, gr, s2, a2] ++ (rg ea n ++ rg wa n))) hD hnR hna rfl (by rw [List.map_append, List.map_append, EW_fst, WW_fst]; rfl)) [(0, ce), (3, gg), (4, gr), (7 + n + (ki i), wa (ki i)), (1, w9_6)] (List.forall_mem_cons.mpr ⟨rfl, (List.forall_mem_cons.mpr ⟨rfl, (List.forall_mem_cons.mpr ⟨rfl, (List.forall_mem_cons.mpr ⟨(wa_ix 7 rfl (ki i) (by omega)), (List.forall_mem_cons.mpr ⟨rfl, (fun _ h => absurd h List.not_mem_nil)⟩)⟩)⟩)⟩)⟩) (by simp only [List.map_cons, List.map_nil, List.nodup_cons, List.mem_cons, List.not_mem_nil, or_false, not_or, List.nodup_nil, and_true, not_false_eq_true]; omega) rfl)) (hga := hg _ hk9) (hgb := hgw)) (cwV 2 hts gX9_nearest_X1_lettersApart rfl rfl rfl (by decide +kernel) ⟨Nat.le_of_ble_eq_true rfl, Nat.le_of_ble_eq_true rfl⟩) ⟨qW_blind, (va_recv hK hR (ci := 1) (q0 := 1) rfl rfl), (qW_of (show va_P D vwCl [(gg, .inr (1, [.ref gr])), (gr, .inr (2, [.ref ce])), (wa (ki i), .inr (7, [.long (lN (wd (ki i))), .int (nI (wl (wd (ki i)))), .long (lN (al (wd (ki i))))])), (w9_6, .inr (7, [.long (lN a), .int (nI (wl a)), .long (lN (al a))]))] _ from (va_P.app (hR.sub (ws' := [(gg, .inr (1, [.ref gr]))]) [1] rfl) (va_P.app (hR.sub (ws' := [(gr, .inr (2, [.ref ce]))]) [2] rfl) (va_P.app ((W_at hR (ki i) (by omega))) (hP.sub (ws' := [(w9_6, .inr (7, [.long (lN a), .int (nI (wl a)), .long (lN (al a))]))]) [1] rfl))))) (hP.sub (ws' := [(ce, .inl (cG, 121, .inl fc1))]) [0] rfl) (hK.sub (tys' := [(cG, .int)]) [0] rfl) hNw)⟩ rfl rfl hl.1 rfl (lv_room (Nat.le_of_ble_eq_true rfl)) dX9_nearest_49 ⟨Nat.le_of_ble_eq_true rfl, Nat.le_of_ble_eq_true rfl⟩) hS (fun q _ h => hF q h) hF (fun r_9 u_13 t_12 H_10 locs_11 ht hvm hr_9 hB hz1 hk1 hS => ?_)
    obtain ⟨f2_14, rfl⟩ : ∃ z, z = u_13 := ⟨_, rfl⟩
    replace hB : va_P D vwCl [(ce, .inl (cG, 121, .inl f2_14))] H_10 := by rw [← ht]; exact hB
    obtain ⟨hP, hD⟩ := q_join (wc := [(ce, .inl (cG, 121, .inl fc1))]) (w1 := [(ce, .inl (cG, 121, .inl f2_14))]) (ws' := [(ce, .inl (cG, 121, .inl f2_14)), (w9_6, .inr (7, [.long (lN a), .int (nI (wl a)), .long (lN (al a))]))]) [0] hP hD rfl rfl hk1 hB rfl
    have hR := q_ro hR0 hna hS
    subst hr_9
    refine q_cvi (show (nI (lev (ltz (wd (ki i))) (ltz a) (wl (wd (ki i))) (wl a))) = (nI (dst wd a (ki i))) from (congrArg nI (lev_sym _ _ _ _))) ?_
    have hd9 := hd20 i (by omega)
    refine lv_istore (lv' := [(7, .int (nI (dst wd a (ki i)))), (6, .ref (ea (ki i))), (5, .int (nI i)), (4, .int (pin (nrk wd ki a i))), (3, .ref w9_6), (0, .ref xo), (1, .long (lN a))]) hx hb dX9_nearest_52 hl (by decide) rfl (fun ls hl => ?_)
    refine lv_iload hx hb dX9_nearest_54 (lv_at hl 3 rfl) ?_
    refine lv_iconst (v := (-1)) hx hb dX9_nearest_56 (by decide) ?_
    refine q_pin_ne (o := nrk wd ki a i) (tgt := 65) hx hb dX9_nearest_57 (by decide) (fun e8 h8 => by have := nrk_lt (fun j hj => hd20 j (by omega)) e8 h8; omega) (fun c_57 => ?_) (fun e9 c_57 => ?_)
    · skip
      have hl : lv_has ls 8 [(7, .int (nI (dst wd a (ki i)))), (6, .ref (ea (ki i))), (5, .int (nI i)), (4, .int ((-1))), (3, .ref w9_6), (0, .ref xo), (1, .long (lN a))] := by rw [c_57] at hl; exact hl
      refine lv_iload hx hb dX9_nearest_60 (lv_at hl 0 rfl) ?_
      refine lv_goto (tgt := 72) hx hb dX9_nearest_62 (by decide) ?_
      refine lv_istore (lv' := [(4, .int (nI (dst wd a (ki i)))), (7, .int (nI (dst wd a (ki i)))), (6, .ref (ea (ki i))), (5, .int (nI i)), (3, .ref w9_6), (0, .ref xo), (1, .long (lN a))]) hx hb dX9_nearest_72 hl (by decide) rfl (fun ls hl => ?_)
      refine lv_iinc (v := nI (i + 1)) (lv' := [(5, .int (nI (i + 1))), (4, .int (nI (dst wd a (ki i)))), (7, .int (nI (dst wd a (ki i)))), (6, .ref (ea (ki i))), (3, .ref w9_6), (0, .ref xo), (1, .long (lN a))]) hx hb dX9_nearest_74 hl (k := 3) rfl (q_inc (k := 1) (by omega)) (by decide) rfl (fun ls hl => ?_)
      refine lv_goto (tgt := 11) hx hb dX9_nearest_77 (by decide) ?_
      rw [show nI (dst wd a (ki i)) = pin (nrk wd ki a (i + 1)) from (by rw [nrk_n c_57]; rfl)] at hl
      exact ih_11 (i + 1, f2_14) _ _ _ ⟨(by omega), hP, hD, hS, (lv_sub hl [0, 1, 4, 5, 6] rfl)⟩ (by show m - (i + 1) < m - i; omega)
    · skip
      have he9 := nrk_lt (fun j hj => hd20 j (by omega)) e9 c_57
      have hl : lv_has ls 8 [(7, .int (nI (dst wd a (ki i)))), (6, .ref (ea (ki i))), (5, .int (nI i)), (4, .int (nI e9)), (3, .ref w9_6), (0, .ref xo), (1, .long (lN a))] := by rw [c_57] at hl; exact hl
      refine lv_iload hx hb dX9_nearest_65 (lv_at hl 3 rfl) ?_
      refine lv_iload hx hb dX9_nearest_67 (lv_at hl 0 rfl) ?_
      refine va_mmin hx hb (hml.trans hl.1.symm) hown (hts (.methodLink RX9 127 Lib.Math.min.name) (List.mem_of_getElem? (i := 3) rfl)) (hts (.static Lib.Math.min.name) (List.mem_of_getElem? (i := 4) rfl)) (hts (.initialized "java/lang/Math") (List.mem_of_getElem? (i := 5) rfl)) (hts (.code Lib.Math.min.name Lib.Math.min.code 2 (some .int)) (List.mem_of_getElem? (i := 6) rfl)) (Nat.le_of_ble_eq_true rfl) (Nat.le_of_ble_eq_true rfl) (Nat.le_of_ble_eq_true rfl) (Nat.le_of_ble_eq_true rfl) dX9_nearest_69 ?_
      refine q_cvi (q_min (by omega) (by omega)) ?_
      refine lv_istore (lv' := [(4, .int (nI (min e9 (dst wd a (ki i))))), (7, .int (nI (dst wd a (ki i)))), (6, .ref (ea (ki i))), (5, .int (nI i)), (3, .ref w9_6), (0, .ref xo), (1, .long (lN a))]) hx hb dX9_nearest_72 hl (by decide) rfl (fun ls hl => ?_)
      refine lv_iinc (v := nI (i + 1)) (lv' := [(5, .int (nI (i + 1))), (4, .int (nI (min e9 (dst wd a (ki i))))), (7, .int (nI (dst wd a (ki i)))), (6, .ref (ea (ki i))), (3, .ref w9_6), (0, .ref xo), (1, .long (lN a))]) hx hb dX9_nearest_74 hl (k := 3) rfl (q_inc (k := 1) (by omega)) (by decide) rfl (fun ls hl => ?_)
      refine lv_goto (tgt := 11) hx hb dX9_nearest_77 (by decide) ?_
      rw [show nI (min e9 (dst wd a (ki i))) = pin (nrk wd ki a (i + 1)) from (by rw [nrk_s c_57]; rfl)] at hl
      exact ih_11 (i + 1, f2_14) _ _ _ ⟨(by omega), hP, hD, hS, (lv_sub hl [0, 1, 4, 5, 6] rfl)⟩ (by show m - (i + 1) < m - i; omega)

set_option maxRecDepth 20000 in
theorem iX9_trieReached_X9 : ∀ w ∈ wsX90, w ∈ wsX9_trieReached := by decide +kernel
set_option maxHeartbeats 4000000 in
set_option maxRecDepth 100000 in
/-- trieReached -/
theorem c_X9_trieReached (l : Launch) (D : va_G) (sz : Nat) (xo : Nat) (gg : Nat) (gr : Nat) (ce : Nat) (tr : Nat) (sh : Nat) (ar : Nat) (ti : Nat) (n1 : Nat) (l1 : Nat) (s2 : Nat) (a2 : Nat) (s3 : Nat) (a3 : Nat) (n2 : Nat) (l2 : Nat) (cS2 : ClassId) (fk : Nat → Option Nat) (m : Nat) (ki : Nat → Nat) (ea : Nat → Nat) (wa : Nat → Nat) (pf : Nat → Option Nat) (cn : Nat → Nat) (dp : Nat → Nat) (oc : Nat → Nat) (ic : Nat → Int32) (lf : Nat → Int32) (pt : Nat → Int32) (wd : Nat → Nat) (n : Nat) (cG : ClassId) (fc : Nat → Int32) (cJ1 : ClassId) (fN : Nat → Int64) (z1 : Int32) (a : Nat) (x9 : Int32) (hst : l.stackTraces = false) (hnd : ([n1, l1, ce] ++ ([xo, ti, gg, gr, s2, a2] ++ (rg ea n ++ rg wa n))).Nodup) (ha : a < 2 ^ 64) (hm : m ≤ 40) (hf : ∀ j, j < m → fk j = some (ea (ki j))) (hki : ∀ j, j < m → ki j < n) (hg : ∀ k, k < n → gw (wd k)) : vx_Met l yX9_trieReached wsX9_trieReached { frames := 7, cells := 2, slots := 12, locals := 147 } (va_Pc [.ref xo, .long (lN a), .int x9] (qWx D sz ([(xo, .inr (8, [.ref gg, .ref tr, .ref ti, .ref s2, .ref s3, .ref n2])), (ti, .inr (6, [.ref n1])), (gg, .inr (1, [.ref gr])), (gr, .inr (2, [.ref ce])), (s2, .inr (4, [.ref a2, .int (nI m)])), (a2, .inl (cS2, 40, .inr (.inr (.inr (.inr fk)))))] ++ (EW ea wa pf cn dp oc ic lf pt n ++ WW wa wd n)) [(n1, .inr (3, [.ref l1, .int z1])), (l1, .inl (cJ1, 401, .inr (.inl fN))), (ce, .inl (cG, 121, .inl fc))] [(cJ1, .long), (cG, .int), (cS2, .object "FuzzyFens$Entry")])) (va_Qi (fun (rv : Int32) (uv : (Nat → Int64) × (Nat → Int32)) => rv = nI (ren (kz x9) a wd ki m) ∧ gw a ∧ 0 ≤ x9 ∧ x9 ≤ nI 3) (fun (uv : (Nat → Int64) × (Nat → Int32)) (tv : State) => va_P D vwCl [(n1, .inr (3, [.ref l1, .int (nI (List.length (rel (kz x9) a wd ki m)))])), (l1, .inl (cJ1, 401, .inr (.inl uv.1))), (ce, .inl (cG, 121, .inl uv.2))] tv.heap) (va_A [(n1, .inr (3, [.ref l1, .int z1])), (l1, .inl (cJ1, 401, .inr (.inl fN))), (ce, .inl (cG, 121, .inl fc))] sz)) (vx_X (fun _ : Unit => True) (fun (E9 : String) (uv : Unit) (tv : State) => ((E9 = q_IA ∧ (¬ (gw a ∧ 0 ≤ x9 ∧ x9 ≤ nI 3)))) ∧ va_P D vwCl ([(n1, .inr (3, [.ref l1, .int z1])), (l1, .inl (cJ1, 401, .inr (.inl fN))), (ce, .inl (cG, 121, .inl fc))]) tv.heap) (va_A [(n1, .inr (3, [.ref l1, .int z1])), (l1, .inl (cJ1, 401, .inr (.inl fN))), (ce, .inl (cG, 121, .inl fc))] sz)) 2 12 (va_A [(n1, .inr (3, [.ref l1, .int z1])), (l1, .inl (cJ1, 401, .inr (.inl fN))), (ce, .inl (cG, 121, .inl fc))] sz) := by
  refine vx_ofW (cc := cX9_trieReached) (maxL := 5) (ret := (some .int)) (by decide) rfl ?_
  intro pM eM s mi9 argsM belowM methM cM sM B hml htab hv
  obtain ⟨rfl, hsz, hR0, hP, hK, hNw, hZ, hXt⟩ := hv
  have hx := B.exec
  have hb := B.bytes
  have hr := B.returns
  have hts := atoms_spec (ws := wsX9_trieReached) B.pre
  have hown : s.vm.findClass RX9 = some mi9.cls := findClass_of_methodNamed B.named
  have hlocks := B.notSynchronized
  subst hsz
  have hna := q_na (RW := [(n1, .inr (3, [.ref l1, .int z1])), (l1, .inl (cJ1, 401, .inr (.inl fN))), (ce, .inl (cG, 121, .inl fc))]) (RO := [(xo, .inr (8, [.ref gg, .ref tr, .ref ti, .ref s2, .ref s3, .ref n2])), (ti, .inr (6, [.ref n1])), (gg, .inr (1, [.ref gr])), (gr, .inr (2, [.ref ce])), (s2, .inr (4, [.ref a2, .int (nI m)])), (a2, .inl (cS2, 40, .inr (.inr (.inr (.inr fk)))))] ++ (EW ea wa pf cn dp oc ic lf pt n ++ WW wa wd n)) hnd rfl (by rw [List.map_append, List.map_append, EW_fst, WW_fst]; rfl) hR0
  have hD := q_D (RW := [(n1, .inr (3, [.ref l1, .int z1])), (l1, .inl (cJ1, 401, .inr (.inl fN))), (ce, .inl (cG, 121, .inl fc))]) (sz := s.heap.size) hnd rfl
  have hnR : (([(xo, .inr (8, [.ref gg, .ref tr, .ref ti, .ref s2, .ref s3, .ref n2])), (ti, .inr (6, [.ref n1])), (gg, .inr (1, [.ref gr])), (gr, .inr (2, [.ref ce])), (s2, .inr (4, [.ref a2, .int (nI m)])), (a2, .inl (cS2, 40, .inr (.inr (.inr (.inr fk)))))] ++ (EW ea wa pf cn dp oc ic lf pt n ++ WW wa wd n) : va_W).map (·.1)).Nodup := by rw [show ([(xo, .inr (8, [.ref gg, .ref tr, .ref ti, .ref s2, .ref s3, .ref n2])), (ti, .inr (6, [.ref n1])), (gg, .inr (1, [.ref gr])), (gr, .inr (2, [.ref ce])), (s2, .inr (4, [.ref a2, .int (nI m)])), (a2, .inl (cS2, 40, .inr (.inr (.inr (.inr fk)))))] ++ (EW ea wa pf cn dp oc ic lf pt n ++ WW wa wd n) : va_W).map (·.1) = ([xo, ti, gg, gr, s2, a2] ++ (rg ea n ++ rg wa n)) from (by rw [List.map_append, List.map_append, EW_fst, WW_fst]; rfl)]; exact (List.nodup_append.mp hnd).2.1
  have hA : ∀ q : Nat, s.heap.size ≤ q → va_A [(n1, .inr (3, [.ref l1, .int z1])), (l1, .inl (cJ1, 401, .inr (.inl fN))), (ce, .inl (cG, 121, .inl fc))] s.heap.size q := fun q h => Or.inr h
  generalize hAe : va_A [(n1, .inr (3, [.ref l1, .int z1])), (l1, .inl (cJ1, 401, .inr (.inl fN))), (ce, .inl (cG, 121, .inl fc))] s.heap.size = A at hna hD hA hZ ⊢
  have hS : va_S A s.heap s.heap [] := va_S.rf
  have hR := hR0
  have hP : va_P D vwCl [(n1, .inr (3, [.ref l1, .int z1])), (l1, .inl (cJ1, 401, .inr (.inl fN))), (ce, .inl (cG, 121, .inl fc))] s.heap := hP
  obtain ⟨⟨tR, hZR, hTR⟩, ⟨tP, hZP, hTP⟩, hUS, hSS⟩ := id hZ
  have hl := lv_entry ([.ref xo, .long (lN a), .int x9]) (n := 5) (Nat.le_of_ble_eq_true rfl)
  rw [lg_entry_eq]
  generalize (lg_sl ([.ref xo, .long (lN a), .int x9]) ++ List.replicate (5 - (lg_sl ([.ref xo, .long (lN a), .int x9])).length) Slot.unset).toArray = ls at hl ⊢
  have hl : lv_has ls 5 [(0, .ref xo), (1, .long (lN a)), (3, .int x9)] := hl
  refine lv_lload_n hx hb dX9_trieReached_0 rfl (lv_at hl 1 rfl) ?_
  have hF := va_free (wc := []) hD hS hA [] rfl
  refine vx_callq (vx_runS (As := [.long (lN a)]) (rest := []) ⟨hx, hb, hml, hown, hts⟩ (c_X9_wordOf (l := l) (D := D) (a := a) (sz := s.heap.size) (hnd := (q_nds (q_ndl hnd) [] rfl rfl)) (hst := hst) (ha := ha)) (va_cwS 1 hts gX9_trieReached_X9_wordOf rfl rfl rfl (by decide +kernel) ⟨Nat.le_of_ble_eq_true rfl, Nat.le_of_ble_eq_true rfl⟩) ⟨qWx_blind, (qWx_of (q_Pof (fun _ h => absurd h List.not_mem_nil)) (q_Pof (fun _ h => absurd h List.not_mem_nil)) (hK.sub (tys' := []) [] rfl) hNw (qZ_at hZ hS (fun q h => hF q h)) hXt)⟩ rfl rfl hl.1 rfl (lv_room (Nat.le_of_ble_eq_true rfl)) dX9_trieReached_1 ⟨Nat.le_of_ble_eq_true rfl, Nat.le_of_ble_eq_true rfl⟩) hS (fun q _ h => hF q h) hF (fun q _ h => hF q h) (fun E9 ce9 q9 u9 t9 H9 locs9 ht9 hvm9 hpx9 hBX9 hz9 hk9 hS9 hc9 hv9 hcl9 => ?_) (fun r_1 u_5 t_4 H_2 locs_3 ht hvm hr_1 hB hz1 hk1 hS => ?_)
  · obtain ⟨hE9, hW9⟩ := hBX9
    exact vx_out (fun x9 h9 => (htab x9 h9).elim) hlocks hc9 hv9 hcl9 (fun t8 ht8 hvm8 => ⟨(), trivial, ⟨⟨hE9.1, fun h9 => hE9.2 h9.1⟩, by show va_P D vwCl _ t8.heap; rw [ht8]; exact (q_keepP hP hk9 q_A0)⟩, ⟨by rw [ht8]; exact hS9.1, fun q8 a8 b8 => by rw [ht8]; exact hS9.2.1 q8 a8 b8⟩⟩) hS9.2.2 (Nat.le_of_ble_eq_true rfl) (Nat.le_of_ble_eq_true rfl)
  skip
  obtain ⟨w9_6, rfl⟩ : ∃ z, z = u_5 := ⟨_, rfl⟩
  obtain ⟨hB1, hB2, hB3⟩ := hB
  replace hB1 : va_P D vwCl ([] ++ [(w9_6, .inr (7, [.long (lN a), .int (nI (wl a)), .long (lN (al a))]))]) H_2 := by rw [← ht]; exact hB1
  obtain ⟨hP, hD⟩ := q_joinN (wc := []) (w1 := []) (wn := [(w9_6, .inr (7, [.long (lN a), .int (nI (wl a)), .long (lN (al a))]))]) (ws' := [(n1, .inr (3, [.ref l1, .int z1])), (l1, .inl (cJ1, 401, .inr (.inl fN))), (ce, .inl (cG, 121, .inl fc))]) [] hP hD rfl rfl hk1 hF hB1 hB2 rfl
  have hK : va_K D vwCl [(cJ1, .long), (cG, .int), (cS2, .object "FuzzyFens$Entry")] s := hK.app (va_K.moved hvm.symm hB3)
  have hP : va_P D vwCl [(n1, .inr (3, [.ref l1, .int z1])), (l1, .inl (cJ1, 401, .inr (.inl fN))), (ce, .inl (cG, 121, .inl fc)), (w9_6, .inr (7, [.long (lN a), .int (nI (wl a)), .long (lN (al a))]))] H_2 := hP
  have hD : va_D A [(n1, .inr (3, [.ref l1, .int z1])), (l1, .inl (cJ1, 401, .inr (.inl fN))), (ce, .inl (cG, 121, .inl fc)), (w9_6, .inr (7, [.long (lN a), .int (nI (wl a)), .long (lN (al a))]))] := hD
  have hR := q_ro hR0 hna hS
  obtain ⟨rfl, hgw⟩ := hr_1
  refine q_cvv (show va_rf (some w9_6) = .ref w9_6 from rfl) ?_
  refine lv_astore (lv' := [(4, .ref w9_6), (0, .ref xo), (1, .long (lN a)), (3, .int x9)]) hx hb dX9_trieReached_4 hl (by decide) rfl (fun ls hl => ?_)
  refine lv_iload_n hx hb dX9_trieReached_6 rfl (lv_at hl 3 rfl) ?_
  refine lv_iconst (v := nI 0) hx hb dX9_trieReached_7 (by decide) ?_
  refine lv_iconst (v := nI 3) hx hb dX9_trieReached_8 (by decide) ?_
  have hF := va_free (wc := []) hD hS hA [] rfl
  refine vx_callv (vx_runS (As := [.int x9, .int (nI 0), .int (nI 3)]) (rest := []) ⟨hx, hb, hml, hown, hts⟩ (c_X9_checkWithin (l := l) (D := D) (x9 := x9) (lo := 0) (hi := 3) (sz := H_2.size) (hnd := (q_nds (q_ndl (q_ndg (l1 := [n1, l1, ce, w9_6]) (l2 := ([xo, ti, gg, gr, s2, a2] ++ (rg ea n ++ rg wa n))) hD hnR hna rfl (by rw [List.map_append, List.map_append, EW_fst, WW_fst]; rfl))) [] rfl rfl)) (hst := hst) (hlo := by omega) (hhi := by omega)) (va_cwS 3 hts gX9_trieReached_X9_checkWithin rfl rfl rfl (by decide +kernel) ⟨Nat.le_of_ble_eq_true rfl, Nat.le_of_ble_eq_true rfl⟩) ⟨qWx_blind, (qWx_of (q_Pof (fun _ h => absurd h List.not_mem_nil)) (q_Pof (fun _ h => absurd h List.not_mem_nil)) (hK.sub (tys' := []) [] rfl) hNw (qZ_at hZ hS (fun q h => hF q h)) hXt)⟩ rfl rfl hl.1 rfl (lv_room (Nat.le_of_ble_eq_true rfl)) dX9_trieReached_9 ⟨Nat.le_of_ble_eq_true rfl, Nat.le_of_ble_eq_true rfl⟩) hS (fun q _ h => hF q h) hF (fun q _ h => hF q h) (fun E9 ce9 q9 u9 t9 H9 locs9 ht9 hvm9 hpx9 hBX9 hz9 hk9 hS9 hc9 hv9 hcl9 => ?_) (fun u_11 t_10 H_8 locs_9 ht hvm hr_7 hB hz1 hk1 hS => ?_)
  · obtain ⟨hE9, hW9⟩ := hBX9
    exact vx_out (fun x9 h9 => (htab x9 h9).elim) hlocks hc9 hv9 hcl9 (fun t8 ht8 hvm8 => ⟨(), trivial, ⟨⟨hE9.1, fun h9 => hE9.2 h9.2⟩, by show va_P D vwCl _ t8.heap; rw [ht8]; exact (va_P.sub (ws' := [(n1, .inr (3, [.ref l1, .int z1])), (l1, .inl (cJ1, 401, .inr (.inl fN))), (ce, .inl (cG, 121, .inl fc))]) (q_keepP hP hk9 q_A0) [0, 1, 2] rfl)⟩, ⟨by rw [ht8]; exact hS9.1, fun q8 a8 b8 => by rw [ht8]; exact hS9.2.1 q8 a8 b8⟩⟩) hS9.2.2 (Nat.le_of_ble_eq_true rfl) (Nat.le_of_ble_eq_true rfl)
  skip
  replace hB : va_P D vwCl [] H_8 := by rw [← ht]; exact hB
  obtain ⟨hP, hD⟩ := q_join (wc := []) (w1 := []) (ws' := [(n1, .inr (3, [.ref l1, .int z1])), (l1, .inl (cJ1, 401, .inr (.inl fN))), (ce, .inl (cG, 121, .inl fc)), (w9_6, .inr (7, [.long (lN a), .int (nI (wl a)), .long (lN (al a))]))]) [] hP hD rfl rfl hk1 hB rfl
  have hR := q_ro hR0 hna hS
  have hcw := hr_7
  have hk9 := kz_le (m := 3) (by decide) hcw.1 hcw.2
  have hl : lv_has ls 5 [(4, .ref w9_6), (0, .ref xo), (1, .long (lN a)), (3, .int (nI (kz x9)))] := (congrArg (fun v9 => lv_has ls 5 [(4, .ref w9_6), (0, .ref xo), (1, .long (lN a)), (3, .int v9)]) (kz_of hcw.1)).mp hl
  refine lv_aload_n hx hb dX9_trieReached_12 rfl (lv_at hl 1 rfl) ?_
  refine va_get (D := D) (own := RX9) (ref := "FuzzyFens") (ci := 8) (v := .ref ti) (C := RX9) (T := TX9) (N := 6) hx hb hts iX9_trieReached_X9 hown hK hR 0 rfl rfl 2 (by decide) (hts (.fieldLink RX9 26 "FuzzyFens" "trie" "LFuzzyFens$Trie;") (List.mem_of_getElem? (i := 1) rfl)) (fun _ h9 => h9) rfl dX9_trieReached_13 ?_
  refine lv_aload_n hx hb dX9_trieReached_16 rfl (lv_at hl 1 rfl) ?_
  refine va_get (D := D) (own := RX9) (ref := "FuzzyFens") (ci := 8) (v := .ref gg) (C := RX9) (T := TX9) (N := 6) hx hb hts iX9_trieReached_X9 hown hK hR 0 rfl rfl 0 (by decide) (hts (.fieldLink RX9 12 "FuzzyFens" "gauge" "LFuzzyFens$Gauge;") (List.mem_of_getElem? (i := 2) rfl)) (fun _ h9 => h9) rfl dX9_trieReached_17 ?_
  refine lv_aload_n hx hb dX9_trieReached_20 rfl (lv_at hl 1 rfl) ?_
  refine va_get (D := D) (own := RX9) (ref := "FuzzyFens") (ci := 8) (v := .ref s2) (C := RX9) (T := TX9) (N := 6) hx hb hts iX9_trieReached_X9 hown hK hR 0 rfl rfl 3 (by decide) (hts (.fieldLink RX9 33 "FuzzyFens" "knownWords" "LFuzzyFens$Shelf;") (List.mem_of_getElem? (i := 3) rfl)) (fun _ h9 => h9) rfl dX9_trieReached_21 ?_
  refine lv_aload hx hb dX9_trieReached_24 (lv_at hl 0 rfl) ?_
  refine lv_iload_n hx hb dX9_trieReached_26 rfl (lv_at hl 3 rfl) ?_
  have hF := va_free (wc := [(n1, .inr (3, [.ref l1, .int z1])), (l1, .inl (cJ1, 401, .inr (.inl fN))), (ce, .inl (cG, 121, .inl fc))]) hD hS hA [0, 1, 2] rfl
  refine va_calli (va_runV (As := [.ref gg, .ref s2, .ref w9_6, .int (nI (kz x9))]) (rest := []) ⟨hx, hb, hml, hown, hts⟩ (c_X7_reach (l := l) (D := D) (tri := ti) (ns := n1) (na := l1) (cJ := cJ1) (fN := fN) (z := z1) (g := gg) (gr := gr) (ce := ce) (cG := cG) (fc := fc) (sh := s2) (ar := a2) (cS := cS2) (f := fk) (m := m) (ki := ki) (o := w9_6) (t := a) (k := kz x9) (ea := ea) (wa := wa) (pf := pf) (cn := cn) (dp := dp) (oc := oc) (ic := ic) (lf := lf) (pt := pt) (wd := wd) (n := n) (sz := H_8.size) (hnd := (q_ndt (q_ndg (l1 := [n1, l1, ce, w9_6]) (l2 := ([xo, ti, gg, gr, s2, a2] ++ (rg ea n ++ rg wa n))) hD hnR hna rfl (by rw [List.map_append, List.map_append, EW_fst, WW_fst]; rfl)) [0, 1, 2, 5, 6, 7, 8, 9, 3] rfl rfl)) (hm := hm) (hf := hf) (hki := hki) (hg := hg) (hgt := hgw) (hk := hk9)) (cwV 4 hts gX9_trieReached_X7_reach rfl rfl rfl (by decide +kernel) ⟨Nat.le_of_ble_eq_true rfl, Nat.le_of_ble_eq_true rfl⟩) ⟨qW_blind, (va_recv hK hR (ci := 6) (q0 := 1) rfl rfl), (qW_of (va_P.app (show va_P D vwCl [(ti, .inr (6, [.ref n1])), (gg, .inr (1, [.ref gr])), (gr, .inr (2, [.ref ce])), (s2, .inr (4, [.ref a2, .int (nI m)])), (a2, .inl (cS2, 40, .inr (.inr (.inr (.inr fk))))), (w9_6, .inr (7, [.long (lN a), .int (nI (wl a)), .long (lN (al a))]))] _ from (va_P.app (hR.sub (ws' := [(ti, .inr (6, [.ref n1]))]) [1] rfl) (va_P.app (hR.sub (ws' := [(gg, .inr (1, [.ref gr]))]) [2] rfl) (va_P.app (hR.sub (ws' := [(gr, .inr (2, [.ref ce]))]) [3] rfl) (va_P.app (hR.sub (ws' := [(s2, .inr (4, [.ref a2, .int (nI m)]))]) [4] rfl) (va_P.app (hR.sub (ws' := [(a2, .inl (cS2, 40, .inr (.inr (.inr (.inr fk)))))]) [5] rfl) (hP.sub (ws' := [(w9_6, .inr (7, [.long (lN a), .int (nI (wl a)), .long (lN (al a))]))]) [3] rfl))))))) (q_right hR)) (hP.sub (ws' := [(n1, .inr (3, [.ref l1, .int z1])), (l1, .inl (cJ1, 401, .inr (.inl fN))), (ce, .inl (cG, 121, .inl fc))]) [0, 1, 2] rfl) (hK.sub (tys' := [(cJ1, .long), (cG, .int), (cS2, .object "FuzzyFens$Entry")]) [0, 1, 2] rfl) hNw)⟩ rfl rfl hl.1 rfl (lv_room (Nat.le_of_ble_eq_true rfl)) dX9_trieReached_27 ⟨Nat.le_of_ble_eq_true rfl, Nat.le_of_ble_eq_true rfl⟩) hS (fun q _ h => hF q h) hF (fun r_12 u_16 t_15 H_13 locs_14 ht hvm hr_12 hB hz1 hk1 hS => ?_)
  obtain ⟨fN3, fc3⟩ := u_16
  dsimp only at hr_12 hB
  replace hB : va_P D vwCl [(n1, .inr (3, [.ref l1, .int (nI (List.length (rel (kz x9) a wd ki m)))])), (l1, .inl (cJ1, 401, .inr (.inl fN3))), (ce, .inl (cG, 121, .inl fc3))] H_13 := by rw [← ht]; exact hB
  obtain ⟨hP, hD⟩ := q_join (wc := [(n1, .inr (3, [.ref l1, .int z1])), (l1, .inl (cJ1, 401, .inr (.inl fN))), (ce, .inl (cG, 121, .inl fc))]) (w1 := [(n1, .inr (3, [.ref l1, .int (nI (List.length (rel (kz x9) a wd ki m)))])), (l1, .inl (cJ1, 401, .inr (.inl fN3))), (ce, .inl (cG, 121, .inl fc3))]) (ws' := [(n1, .inr (3, [.ref l1, .int (nI (List.length (rel (kz x9) a wd ki m)))])), (l1, .inl (cJ1, 401, .inr (.inl fN3))), (ce, .inl (cG, 121, .inl fc3)), (w9_6, .inr (7, [.long (lN a), .int (nI (wl a)), .long (lN (al a))]))]) [0, 1, 2] hP hD rfl rfl hk1 hB rfl
  have hR := q_ro hR0 hna hS
  subst hr_12
  refine vx_ret ?_
  refine W.widen (k := 2) (n := 12) (Nat.le_of_ble_eq_true rfl) (Nat.le_of_ble_eq_true rfl) ?_
  exact W.iret (v := nI (ren (kz x9) a wd ki m)) hx hb hr (fun t9 ht hW => ⟨⟨nI (ren (kz x9) a wd ki m), (fN3, fc3), rfl, ⟨rfl, ⟨hgw, hcw⟩⟩, by show va_P D vwCl _ t9.heap; rw [ht]; exact (va_P.sub (ws' := [(n1, .inr (3, [.ref l1, .int (nI (List.length (rel (kz x9) a wd ki m)))])), (l1, .inl (cJ1, 401, .inr (.inl fN3))), (ce, .inl (cG, 121, .inl fc3))]) hP [0, 1, 2] rfl)⟩, hS.F ht⟩) hS.2.2 dX9_trieReached_30

set_option maxRecDepth 20000 in
theorem iX9_rows_X9 : ∀ w ∈ wsX90, w ∈ wsX9_rows := by decide +kernel
set_option maxHeartbeats 4000000 in
set_option maxRecDepth 100000 in
/-- rows -/
theorem c_X9_rows (l : Launch) (D : va_G) (sz : Nat) (xo : Nat) (gg : Nat) (gr : Nat) (ce : Nat) (tr : Nat) (sh : Nat) (ar : Nat) (ti : Nat) (n1 : Nat) (l1 : Nat) (s2 : Nat) (a2 : Nat) (s3 : Nat) (a3 : Nat) (n2 : Nat) (l2 : Nat) (cS2 : ClassId) (fk : Nat → Option Nat) (m : Nat) (ki : Nat → Nat) (ea : Nat → Nat) (wa : Nat → Nat) (pf : Nat → Option Nat) (cn : Nat → Nat) (dp : Nat → Nat) (oc : Nat → Nat) (ic : Nat → Int32) (lf : Nat → Int32) (pt : Nat → Int32) (wd : Nat → Nat) (n : Nat) (cG : ClassId) (fc : Nat → Int32) (cJ1 : ClassId) (fN : Nat → Int64) (z1 : Int32) (a : Nat) (x9 : Int32) (hst : l.stackTraces = false) (hnd : ([n1, l1, ce] ++ ([xo, ti, gg, gr, s2, a2] ++ (rg ea n ++ rg wa n))).Nodup) (ha : a < 2 ^ 64) (hm : m ≤ 40) (hf : ∀ j, j < m → fk j = some (ea (ki j))) (hki : ∀ j, j < m → ki j < n) (hg : ∀ k, k < n → gw (wd k)) : vx_Met l yX9_rows wsX9_rows { frames := 7, cells := 2, slots := 12, locals := 147 } (va_Pc [.ref xo, .long (lN a), .int x9] (qWx D sz ([(xo, .inr (8, [.ref gg, .ref tr, .ref ti, .ref s2, .ref s3, .ref n2])), (ti, .inr (6, [.ref n1])), (gg, .inr (1, [.ref gr])), (gr, .inr (2, [.ref ce])), (s2, .inr (4, [.ref a2, .int (nI m)])), (a2, .inl (cS2, 40, .inr (.inr (.inr (.inr fk)))))] ++ (EW ea wa pf cn dp oc ic lf pt n ++ WW wa wd n)) [(n1, .inr (3, [.ref l1, .int z1])), (l1, .inl (cJ1, 401, .inr (.inl fN))), (ce, .inl (cG, 121, .inl fc))] [(cJ1, .long), (cG, .int), (cS2, .object "FuzzyFens$Entry")])) (va_Qi (fun (rv : Int32) (uv : (Nat → Int64) × (Nat → Int32)) => rv = nI (List.length (rel (kz x9) a wd ki m)) ∧ gw a ∧ 0 ≤ x9 ∧ x9 ≤ nI 3) (fun (uv : (Nat → Int64) × (Nat → Int32)) (tv : State) => va_P D vwCl [(n1, .inr (3, [.ref l1, .int (nI (List.length (rel (kz x9) a wd ki m)))])), (l1, .inl (cJ1, 401, .inr (.inl uv.1))), (ce, .inl (cG, 121, .inl uv.2))] tv.heap) (va_A [(n1, .inr (3, [.ref l1, .int z1])), (l1, .inl (cJ1, 401, .inr (.inl fN))), (ce, .inl (cG, 121, .inl fc))] sz)) (vx_X (fun _ : Unit => True) (fun (E9 : String) (uv : Unit) (tv : State) => ((E9 = q_IA ∧ (¬ (gw a ∧ 0 ≤ x9 ∧ x9 ≤ nI 3)))) ∧ va_P D vwCl ([(n1, .inr (3, [.ref l1, .int z1])), (l1, .inl (cJ1, 401, .inr (.inl fN))), (ce, .inl (cG, 121, .inl fc))]) tv.heap) (va_A [(n1, .inr (3, [.ref l1, .int z1])), (l1, .inl (cJ1, 401, .inr (.inl fN))), (ce, .inl (cG, 121, .inl fc))] sz)) 2 12 (va_A [(n1, .inr (3, [.ref l1, .int z1])), (l1, .inl (cJ1, 401, .inr (.inl fN))), (ce, .inl (cG, 121, .inl fc))] sz) := by
  refine vx_ofW (cc := cX9_rows) (maxL := 5) (ret := (some .int)) (by decide) rfl ?_
  intro pM eM s mi9 argsM belowM methM cM sM B hml htab hv
  obtain ⟨rfl, hsz, hR0, hP, hK, hNw, hZ, hXt⟩ := hv
  have hx := B.exec
  have hb := B.bytes
  have hr := B.returns
  have hts := atoms_spec (ws := wsX9_rows) B.pre
  have hown : s.vm.findClass RX9 = some mi9.cls := findClass_of_methodNamed B.named
  have hlocks := B.notSynchronized
  subst hsz
  have hna := q_na (RW := [(n1, .inr (3, [.ref l1, .int z1])), (l1, .inl (cJ1, 401, .inr (.inl fN))), (ce, .inl (cG, 121, .inl fc))]) (RO := [(xo, .inr (8, [.ref gg, .ref tr, .ref ti, .ref s2, .ref s3, .ref n2])), (ti, .inr (6, [.ref n1])), (gg, .inr (1, [.ref gr])), (gr, .inr (2, [.ref ce])), (s2, .inr (4, [.ref a2, .int (nI m)])), (a2, .inl (cS2, 40, .inr (.inr (.inr (.inr fk)))))] ++ (EW ea wa pf cn dp oc ic lf pt n ++ WW wa wd n)) hnd rfl (by rw [List.map_append, List.map_append, EW_fst, WW_fst]; rfl) hR0
  have hD := q_D (RW := [(n1, .inr (3, [.ref l1, .int z1])), (l1, .inl (cJ1, 401, .inr (.inl fN))), (ce, .inl (cG, 121, .inl fc))]) (sz := s.heap.size) hnd rfl
  have hnR : (([(xo, .inr (8, [.ref gg, .ref tr, .ref ti, .ref s2, .ref s3, .ref n2])), (ti, .inr (6, [.ref n1])), (gg, .inr (1, [.ref gr])), (gr, .inr (2, [.ref ce])), (s2, .inr (4, [.ref a2, .int (nI m)])), (a2, .inl (cS2, 40, .inr (.inr (.inr (.inr fk)))))] ++ (EW ea wa pf cn dp oc ic lf pt n ++ WW wa wd n) : va_W).map (·.1)).Nodup := by rw [show ([(xo, .inr (8, [.ref gg, .ref tr, .ref ti, .ref s2, .ref s3, .ref n2])), (ti, .inr (6, [.ref n1])), (gg, .inr (1, [.ref gr])), (gr, .inr (2, [.ref ce])), (s2, .inr (4, [.ref a2, .int (nI m)])), (a2, .inl (cS2, 40, .inr (.inr (.inr (.inr fk)))))] ++ (EW ea wa pf cn dp oc ic lf pt n ++ WW wa wd n) : va_W).map (·.1) = ([xo, ti, gg, gr, s2, a2] ++ (rg ea n ++ rg wa n)) from (by rw [List.map_append, List.map_append, EW_fst, WW_fst]; rfl)]; exact (List.nodup_append.mp hnd).2.1
  have hA : ∀ q : Nat, s.heap.size ≤ q → va_A [(n1, .inr (3, [.ref l1, .int z1])), (l1, .inl (cJ1, 401, .inr (.inl fN))), (ce, .inl (cG, 121, .inl fc))] s.heap.size q := fun q h => Or.inr h
  generalize hAe : va_A [(n1, .inr (3, [.ref l1, .int z1])), (l1, .inl (cJ1, 401, .inr (.inl fN))), (ce, .inl (cG, 121, .inl fc))] s.heap.size = A at hna hD hA hZ ⊢
  have hS : va_S A s.heap s.heap [] := va_S.rf
  have hR := hR0
  have hP : va_P D vwCl [(n1, .inr (3, [.ref l1, .int z1])), (l1, .inl (cJ1, 401, .inr (.inl fN))), (ce, .inl (cG, 121, .inl fc))] s.heap := hP
  obtain ⟨⟨tR, hZR, hTR⟩, ⟨tP, hZP, hTP⟩, hUS, hSS⟩ := id hZ
  have hl := lv_entry ([.ref xo, .long (lN a), .int x9]) (n := 5) (Nat.le_of_ble_eq_true rfl)
  rw [lg_entry_eq]
  generalize (lg_sl ([.ref xo, .long (lN a), .int x9]) ++ List.replicate (5 - (lg_sl ([.ref xo, .long (lN a), .int x9])).length) Slot.unset).toArray = ls at hl ⊢
  have hl : lv_has ls 5 [(0, .ref xo), (1, .long (lN a)), (3, .int x9)] := hl
  refine lv_lload_n hx hb dX9_rows_0 rfl (lv_at hl 1 rfl) ?_
  have hF := va_free (wc := []) hD hS hA [] rfl
  refine vx_callq (vx_runS (As := [.long (lN a)]) (rest := []) ⟨hx, hb, hml, hown, hts⟩ (c_X9_wordOf (l := l) (D := D) (a := a) (sz := s.heap.size) (hnd := (q_nds (q_ndl hnd) [] rfl rfl)) (hst := hst) (ha := ha)) (va_cwS 1 hts gX9_rows_X9_wordOf rfl rfl rfl (by decide +kernel) ⟨Nat.le_of_ble_eq_true rfl, Nat.le_of_ble_eq_true rfl⟩) ⟨qWx_blind, (qWx_of (q_Pof (fun _ h => absurd h List.not_mem_nil)) (q_Pof (fun _ h => absurd h List.not_mem_nil)) (hK.sub (tys' := []) [] rfl) hNw (qZ_at hZ hS (fun q h => hF q h)) hXt)⟩ rfl rfl hl.1 rfl (lv_room (Nat.le_of_ble_eq_true rfl)) dX9_rows_1 ⟨Nat.le_of_ble_eq_true rfl, Nat.le_of_ble_eq_true rfl⟩) hS (fun q _ h => hF q h) hF (fun q _ h => hF q h) (fun E9 ce9 q9 u9 t9 H9 locs9 ht9 hvm9 hpx9 hBX9 hz9 hk9 hS9 hc9 hv9 hcl9 => ?_) (fun r_1 u_5 t_4 H_2 locs_3 ht hvm hr_1 hB hz1 hk1 hS => ?_)
  · obtain ⟨hE9, hW9⟩ := hBX9
    exact vx_out (fun x9 h9 => (htab x9 h9).elim) hlocks hc9 hv9 hcl9 (fun t8 ht8 hvm8 => ⟨(), trivial, ⟨⟨hE9.1, fun h9 => hE9.2 h9.1⟩, by show va_P D vwCl _ t8.heap; rw [ht8]; exact (q_keepP hP hk9 q_A0)⟩, ⟨by rw [ht8]; exact hS9.1, fun q8 a8 b8 => by rw [ht8]; exact hS9.2.1 q8 a8 b8⟩⟩) hS9.2.2 (Nat.le_of_ble_eq_true rfl) (Nat.le_of_ble_eq_true rfl)
  skip
  obtain ⟨w9_6, rfl⟩ : ∃ z, z = u_5 := ⟨_, rfl⟩
  obtain ⟨hB1, hB2, hB3⟩ := hB
  replace hB1 : va_P D vwCl ([] ++ [(w9_6, .inr (7, [.long (lN a), .int (nI (wl a)), .long (lN (al a))]))]) H_2 := by rw [← ht]; exact hB1
  obtain ⟨hP, hD⟩ := q_joinN (wc := []) (w1 := []) (wn := [(w9_6, .inr (7, [.long (lN a), .int (nI (wl a)), .long (lN (al a))]))]) (ws' := [(n1, .inr (3, [.ref l1, .int z1])), (l1, .inl (cJ1, 401, .inr (.inl fN))), (ce, .inl (cG, 121, .inl fc))]) [] hP hD rfl rfl hk1 hF hB1 hB2 rfl
  have hK : va_K D vwCl [(cJ1, .long), (cG, .int), (cS2, .object "FuzzyFens$Entry")] s := hK.app (va_K.moved hvm.symm hB3)
  have hP : va_P D vwCl [(n1, .inr (3, [.ref l1, .int z1])), (l1, .inl (cJ1, 401, .inr (.inl fN))), (ce, .inl (cG, 121, .inl fc)), (w9_6, .inr (7, [.long (lN a), .int (nI (wl a)), .long (lN (al a))]))] H_2 := hP
  have hD : va_D A [(n1, .inr (3, [.ref l1, .int z1])), (l1, .inl (cJ1, 401, .inr (.inl fN))), (ce, .inl (cG, 121, .inl fc)), (w9_6, .inr (7, [.long (lN a), .int (nI (wl a)), .long (lN (al a))]))] := hD
  have hR := q_ro hR0 hna hS
  obtain ⟨rfl, hgw⟩ := hr_1
  refine q_cvv (show va_rf (some w9_6) = .ref w9_6 from rfl) ?_
  refine lv_astore (lv' := [(4, .ref w9_6), (0, .ref xo), (1, .long (lN a)), (3, .int x9)]) hx hb dX9_rows_4 hl (by decide) rfl (fun ls hl => ?_)
  refine lv_iload_n hx hb dX9_rows_6 rfl (lv_at hl 3 rfl) ?_
  refine lv_iconst (v := nI 0) hx hb dX9_rows_7 (by decide) ?_
  refine lv_iconst (v := nI 3) hx hb dX9_rows_8 (by decide) ?_
  have hF := va_free (wc := []) hD hS hA [] rfl
  refine vx_callv (vx_runS (As := [.int x9, .int (nI 0), .int (nI 3)]) (rest := []) ⟨hx, hb, hml, hown, hts⟩ (c_X9_checkWithin (l := l) (D := D) (x9 := x9) (lo := 0) (hi := 3) (sz := H_2.size) (hnd := (q_nds (q_ndl (q_ndg (l1 := [n1, l1, ce, w9_6]) (l2 := ([xo, ti, gg, gr, s2, a2] ++ (rg ea n ++ rg wa n))) hD hnR hna rfl (by rw [List.map_append, List.map_append, EW_fst, WW_fst]; rfl))) [] rfl rfl)) (hst := hst) (hlo := by omega) (hhi := by omega)) (va_cwS 3 hts gX9_rows_X9_checkWithin rfl rfl rfl (by decide +kernel) ⟨Nat.le_of_ble_eq_true rfl, Nat.le_of_ble_eq_true rfl⟩) ⟨qWx_blind, (qWx_of (q_Pof (fun _ h => absurd h List.not_mem_nil)) (q_Pof (fun _ h => absurd h List.not_mem_nil)) (hK.sub (tys' := []) [] rfl) hNw (qZ_at hZ hS (fun q h => hF q h)) hXt)⟩ rfl rfl hl.1 rfl (lv_room (Nat.le_of_ble_eq_true rfl)) dX9_rows_9 ⟨Nat.le_of_ble_eq_true rfl, Nat.le_of_ble_eq_true rfl⟩) hS (fun q _ h => hF q h) hF (fun q _ h => hF q h) (fun E9 ce9 q9 u9 t9 H9 locs9 ht9 hvm9 hpx9 hBX9 hz9 hk9 hS9 hc9 hv9 hcl9 => ?_) (fun u_11 t_10 H_8 locs_9 ht hvm hr_7 hB hz1 hk1 hS => ?_)
  · obtain ⟨hE9, hW9⟩ := hBX9
    exact vx_out (fun x9 h9 => (htab x9 h9).elim) hlocks hc9 hv9 hcl9 (fun t8 ht8 hvm8 => ⟨(), trivial, ⟨⟨hE9.1, fun h9 => hE9.2 h9.2⟩, by show va_P D vwCl _ t8.heap; rw [ht8]; exact (va_P.sub (ws' := [(n1, .inr (3, [.ref l1, .int z1])), (l1, .inl (cJ1, 401, .inr (.inl fN))), (ce, .inl (cG, 121, .inl fc))]) (q_keepP hP hk9 q_A0) [0, 1, 2] rfl)⟩, ⟨by rw [ht8]; exact hS9.1, fun q8 a8 b8 => by rw [ht8]; exact hS9.2.1 q8 a8 b8⟩⟩) hS9.2.2 (Nat.le_of_ble_eq_true rfl) (Nat.le_of_ble_eq_true rfl)
  skip
  replace hB : va_P D vwCl [] H_8 := by rw [← ht]; exact hB
  obtain ⟨hP, hD⟩ := q_join (wc := []) (w1 := []) (ws' := [(n1, .inr (3, [.ref l1, .int z1])), (l1, .inl (cJ1, 401, .inr (.inl fN))), (ce, .inl (cG, 121, .inl fc)), (w9_6, .inr (7, [.long (lN a), .int (nI (wl a)), .long (lN (al a))]))]) [] hP hD rfl rfl hk1 hB rfl
  have hR := q_ro hR0 hna hS
  have hcw := hr_7
  have hk9 := kz_le (m := 3) (by decide) hcw.1 hcw.2
  have hl : lv_has ls 5 [(4, .ref w9_6), (0, .ref xo), (1, .long (lN a)), (3, .int (nI (kz x9)))] := (congrArg (fun v9 => lv_has ls 5 [(4, .ref w9_6), (0, .ref xo), (1, .long (lN a)), (3, .int v9)]) (kz_of hcw.1)).mp hl
  refine lv_aload_n hx hb dX9_rows_12 rfl (lv_at hl 1 rfl) ?_
  refine va_get (D := D) (own := RX9) (ref := "FuzzyFens") (ci := 8) (v := .ref ti) (C := RX9) (T := TX9) (N := 6) hx hb hts iX9_rows_X9 hown hK hR 0 rfl rfl 2 (by decide) (hts (.fieldLink RX9 26 "FuzzyFens" "trie" "LFuzzyFens$Trie;") (List.mem_of_getElem? (i := 1) rfl)) (fun _ h9 => h9) rfl dX9_rows_13 ?_
  refine lv_aload_n hx hb dX9_rows_16 rfl (lv_at hl 1 rfl) ?_
  refine va_get (D := D) (own := RX9) (ref := "FuzzyFens") (ci := 8) (v := .ref gg) (C := RX9) (T := TX9) (N := 6) hx hb hts iX9_rows_X9 hown hK hR 0 rfl rfl 0 (by decide) (hts (.fieldLink RX9 12 "FuzzyFens" "gauge" "LFuzzyFens$Gauge;") (List.mem_of_getElem? (i := 2) rfl)) (fun _ h9 => h9) rfl dX9_rows_17 ?_
  refine lv_aload_n hx hb dX9_rows_20 rfl (lv_at hl 1 rfl) ?_
  refine va_get (D := D) (own := RX9) (ref := "FuzzyFens") (ci := 8) (v := .ref s2) (C := RX9) (T := TX9) (N := 6) hx hb hts iX9_rows_X9 hown hK hR 0 rfl rfl 3 (by decide) (hts (.fieldLink RX9 33 "FuzzyFens" "knownWords" "LFuzzyFens$Shelf;") (List.mem_of_getElem? (i := 3) rfl)) (fun _ h9 => h9) rfl dX9_rows_21 ?_
  refine lv_aload hx hb dX9_rows_24 (lv_at hl 0 rfl) ?_
  refine lv_iload_n hx hb dX9_rows_26 rfl (lv_at hl 3 rfl) ?_
  have hF := va_free (wc := [(n1, .inr (3, [.ref l1, .int z1])), (l1, .inl (cJ1, 401, .inr (.inl fN))), (ce, .inl (cG, 121, .inl fc))]) hD hS hA [0, 1, 2] rfl
  refine va_calli (va_runV (As := [.ref gg, .ref s2, .ref w9_6, .int (nI (kz x9))]) (rest := []) ⟨hx, hb, hml, hown, hts⟩ (c_X7_reach (l := l) (D := D) (tri := ti) (ns := n1) (na := l1) (cJ := cJ1) (fN := fN) (z := z1) (g := gg) (gr := gr) (ce := ce) (cG := cG) (fc := fc) (sh := s2) (ar := a2) (cS := cS2) (f := fk) (m := m) (ki := ki) (o := w9_6) (t := a) (k := kz x9) (ea := ea) (wa := wa) (pf := pf) (cn := cn) (dp := dp) (oc := oc) (ic := ic) (lf := lf) (pt := pt) (wd := wd) (n := n) (sz := H_8.size) (hnd := (q_ndt (q_ndg (l1 := [n1, l1, ce, w9_6]) (l2 := ([xo, ti, gg, gr, s2, a2] ++ (rg ea n ++ rg wa n))) hD hnR hna rfl (by rw [List.map_append, List.map_append, EW_fst, WW_fst]; rfl)) [0, 1, 2, 5, 6, 7, 8, 9, 3] rfl rfl)) (hm := hm) (hf := hf) (hki := hki) (hg := hg) (hgt := hgw) (hk := hk9)) (cwV 4 hts gX9_rows_X7_reach rfl rfl rfl (by decide +kernel) ⟨Nat.le_of_ble_eq_true rfl, Nat.le_of_ble_eq_true rfl⟩) ⟨qW_blind, (va_recv hK hR (ci := 6) (q0 := 1) rfl rfl), (qW_of (va_P.app (show va_P D vwCl [(ti, .inr (6, [.ref n1])), (gg, .inr (1, [.ref gr])), (gr, .inr (2, [.ref ce])), (s2, .inr (4, [.ref a2, .int (nI m)])), (a2, .inl (cS2, 40, .inr (.inr (.inr (.inr fk))))), (w9_6, .inr (7, [.long (lN a), .int (nI (wl a)), .long (lN (al a))]))] _ from (va_P.app (hR.sub (ws' := [(ti, .inr (6, [.ref n1]))]) [1] rfl) (va_P.app (hR.sub (ws' := [(gg, .inr (1, [.ref gr]))]) [2] rfl) (va_P.app (hR.sub (ws' := [(gr, .inr (2, [.ref ce]))]) [3] rfl) (va_P.app (hR.sub (ws' := [(s2, .inr (4, [.ref a2, .int (nI m)]))]) [4] rfl) (va_P.app (hR.sub (ws' := [(a2, .inl (cS2, 40, .inr (.inr (.inr (.inr fk)))))]) [5] rfl) (hP.sub (ws' := [(w9_6, .inr (7, [.long (lN a), .int (nI (wl a)), .long (lN (al a))]))]) [3] rfl))))))) (q_right hR)) (hP.sub (ws' := [(n1, .inr (3, [.ref l1, .int z1])), (l1, .inl (cJ1, 401, .inr (.inl fN))), (ce, .inl (cG, 121, .inl fc))]) [0, 1, 2] rfl) (hK.sub (tys' := [(cJ1, .long), (cG, .int), (cS2, .object "FuzzyFens$Entry")]) [0, 1, 2] rfl) hNw)⟩ rfl rfl hl.1 rfl (lv_room (Nat.le_of_ble_eq_true rfl)) dX9_rows_27 ⟨Nat.le_of_ble_eq_true rfl, Nat.le_of_ble_eq_true rfl⟩) hS (fun q _ h => hF q h) hF (fun r_12 u_16 t_15 H_13 locs_14 ht hvm hr_12 hB hz1 hk1 hS => ?_)
  obtain ⟨fN3, fc3⟩ := u_16
  dsimp only at hr_12 hB
  replace hB : va_P D vwCl [(n1, .inr (3, [.ref l1, .int (nI (List.length (rel (kz x9) a wd ki m)))])), (l1, .inl (cJ1, 401, .inr (.inl fN3))), (ce, .inl (cG, 121, .inl fc3))] H_13 := by rw [← ht]; exact hB
  obtain ⟨hP, hD⟩ := q_join (wc := [(n1, .inr (3, [.ref l1, .int z1])), (l1, .inl (cJ1, 401, .inr (.inl fN))), (ce, .inl (cG, 121, .inl fc))]) (w1 := [(n1, .inr (3, [.ref l1, .int (nI (List.length (rel (kz x9) a wd ki m)))])), (l1, .inl (cJ1, 401, .inr (.inl fN3))), (ce, .inl (cG, 121, .inl fc3))]) (ws' := [(n1, .inr (3, [.ref l1, .int (nI (List.length (rel (kz x9) a wd ki m)))])), (l1, .inl (cJ1, 401, .inr (.inl fN3))), (ce, .inl (cG, 121, .inl fc3)), (w9_6, .inr (7, [.long (lN a), .int (nI (wl a)), .long (lN (al a))]))]) [0, 1, 2] hP hD rfl rfl hk1 hB rfl
  have hR := q_ro hR0 hna hS
  subst hr_12
  refine lv_pop hx hb dX9_rows_30 rfl ?_
  refine lv_aload_n hx hb dX9_rows_31 rfl (lv_at hl 1 rfl) ?_
  refine va_get (D := D) (own := RX9) (ref := "FuzzyFens") (ci := 8) (v := .ref ti) (C := RX9) (T := TX9) (N := 6) hx hb hts iX9_rows_X9 hown hK hR 0 rfl rfl 2 (by decide) (hts (.fieldLink RX9 26 "FuzzyFens" "trie" "LFuzzyFens$Trie;") (List.mem_of_getElem? (i := 1) rfl)) (fun _ h9 => h9) rfl dX9_rows_32 ?_
  refine vp_callSi (W.runV (As := []) (rest := []) ⟨hx, hb, hml, hown, hts⟩ (c_X7_rowsSeen (l := l) (D := D) (tri := ti) (ns := n1) (na := l1) (k := List.length (rel (kz x9) a wd ki m)) ) (cwV 0 hts gX9_rows_X7_rowsSeen rfl rfl rfl (by decide +kernel) ⟨Nat.le_of_ble_eq_true rfl, Nat.le_of_ble_eq_true rfl⟩) ⟨qP_blind, (va_recv hK hR (ci := 6) (q0 := 1) rfl rfl), (qP_of (show va_P D vwCl [(ti, .inr (6, [.ref n1])), (n1, .inr (3, [.ref l1, .int (nI (List.length (rel (kz x9) a wd ki m)))]))] _ from (va_P.app (hR.sub (ws' := [(ti, .inr (6, [.ref n1]))]) [1] rfl) (hP.sub (ws' := [(n1, .inr (3, [.ref l1, .int (nI (List.length (rel (kz x9) a wd ki m)))]))]) [0] rfl))) (hK.sub (tys' := []) [] rfl) hNw)⟩ rfl rfl hl.1 rfl (lv_room (Nat.le_of_ble_eq_true rfl)) dX9_rows_35 ⟨Nat.le_of_ble_eq_true rfl, Nat.le_of_ble_eq_true rfl⟩) (fun r_17 hr_17 => ?_)
  subst hr_17
  refine vx_ret ?_
  refine W.widen (k := 2) (n := 12) (Nat.le_of_ble_eq_true rfl) (Nat.le_of_ble_eq_true rfl) ?_
  exact W.iret (v := nI (List.length (rel (kz x9) a wd ki m))) hx hb hr (fun t9 ht hW => ⟨⟨nI (List.length (rel (kz x9) a wd ki m)), (fN3, fc3), rfl, ⟨rfl, ⟨hgw, hcw⟩⟩, by show va_P D vwCl _ t9.heap; rw [ht]; exact (va_P.sub (ws' := [(n1, .inr (3, [.ref l1, .int (nI (List.length (rel (kz x9) a wd ki m)))])), (l1, .inl (cJ1, 401, .inr (.inl fN3))), (ce, .inl (cG, 121, .inl fc3))]) hP [0, 1, 2] rfl)⟩, hS.F ht⟩) hS.2.2 dX9_rows_38

set_option maxRecDepth 20000 in
theorem iX9_treeCompared_X9 : ∀ w ∈ wsX90, w ∈ wsX9_treeCompared := by decide +kernel
set_option maxHeartbeats 4000000 in
set_option maxRecDepth 100000 in
/-- treeCompared -/
theorem c_X9_treeCompared (l : Launch) (D : va_G) (sz : Nat) (xo : Nat) (gg : Nat) (gr : Nat) (ce : Nat) (tr : Nat) (sh : Nat) (ar : Nat) (ti : Nat) (n1 : Nat) (l1 : Nat) (s2 : Nat) (a2 : Nat) (s3 : Nat) (a3 : Nat) (n2 : Nat) (l2 : Nat) (cS : ClassId) (f : Nat → Option Nat) (ea : Nat → Nat) (wa : Nat → Nat) (pf : Nat → Option Nat) (cn : Nat → Nat) (dp : Nat → Nat) (oc : Nat → Nat) (ic : Nat → Int32) (lf : Nat → Int32) (pt : Nat → Int32) (wd : Nat → Nat) (n : Nat) (pi : Nat → Option Nat) (cG : ClassId) (fc : Nat → Int32) (a : Nat) (x9 : Int32) (CC : Nat → Bool) (hst : l.stackTraces = false) (hnd : (([ce] ++ (rg ea n ++ rg wa n)) ++ [xo, tr, sh, ar, gg, gr]).Nodup) (ha : a < 2 ^ 64) (hfe : ∀ j, j < n → f j = some (ea j)) (hn40 : n ≤ 40) (hg : ∀ k, k < n → gw (wd k)) (hpi : ∀ k, k < n → pf k = (pi k).map ea) (hpn : ∀ k i, k < n → pi k = some i → i < k) (hcb : ∀ k, k < n → cn k ≤ 20) (hCq : ∀ i, i < n → (CC i = true ↔ ∀ q, pi i = some q → (CC q = true ∧ cn i ≤ dst wd a q + kz x9 ∧ dst wd a q ≤ cn i + kz x9))) : vx_Met l yX9_treeCompared wsX9_treeCompared { frames := 7, cells := 2, slots := 12, locals := 120 } (va_Pc [.ref xo, .long (lN a), .int x9] (qWx D sz ([(xo, .inr (8, [.ref gg, .ref tr, .ref ti, .ref s2, .ref s3, .ref n2])), (tr, .inr (5, [.ref sh])), (sh, .inr (4, [.ref ar, .int (nI n)])), (ar, .inl (cS, 40, .inr (.inr (.inr (.inr f))))), (gg, .inr (1, [.ref gr])), (gr, .inr (2, [.ref ce]))]) ([(ce, .inl (cG, 121, .inl fc))] ++ (EW ea wa pf cn dp oc ic lf pt n ++ WW wa wd n)) [(cG, .int), (cS, .object "FuzzyFens$Entry")])) (va_Qi (fun (rv : Int32) (uv : (Nat → Int32) × (Nat → Int32) × (Nat → Int32)) => rv = nI (cnt CC n) ∧ gw a ∧ 0 ≤ x9 ∧ x9 ≤ nI 3) (fun (uv : (Nat → Int32) × (Nat → Int32) × (Nat → Int32)) (tv : State) => va_P D vwCl ([(ce, .inl (cG, 121, .inl uv.1))] ++ (EW ea wa pf cn dp oc uv.2.1 uv.2.2 pt n ++ WW wa wd n)) tv.heap) (va_A ([(ce, .inl (cG, 121, .inl fc))] ++ (EW ea wa pf cn dp oc ic lf pt n ++ WW wa wd n)) sz)) (vx_X (fun _ : Unit => True) (fun (E9 : String) (uv : Unit) (tv : State) => ((E9 = q_IA ∧ (¬ (gw a ∧ 0 ≤ x9 ∧ x9 ≤ nI 3)))) ∧ va_P D vwCl ([(ce, .inl (cG, 121, .inl fc))] ++ (EW ea wa pf cn dp oc ic lf pt n ++ WW wa wd n)) tv.heap) (va_A ([(ce, .inl (cG, 121, .inl fc))] ++ (EW ea wa pf cn dp oc ic lf pt n ++ WW wa wd n)) sz)) 2 12 (va_A ([(ce, .inl (cG, 121, .inl fc))] ++ (EW ea wa pf cn dp oc ic lf pt n ++ WW wa wd n)) sz) := by
  refine vx_ofW (cc := cX9_treeCompared) (maxL := 5) (ret := (some .int)) (by decide) rfl ?_
  intro pM eM s mi9 argsM belowM methM cM sM B hml htab hv
  obtain ⟨rfl, hsz, hR0, hP, hK, hNw, hZ, hXt⟩ := hv
  have hx := B.exec
  have hb := B.bytes
  have hr := B.returns
  have hts := atoms_spec (ws := wsX9_treeCompared) B.pre
  have hown : s.vm.findClass RX9 = some mi9.cls := findClass_of_methodNamed B.named
  have hlocks := B.notSynchronized
  subst hsz
  have hna := q_na (RW := ([(ce, .inl (cG, 121, .inl fc))] ++ (EW ea wa pf cn dp oc ic lf pt n ++ WW wa wd n))) (RO := [(xo, .inr (8, [.ref gg, .ref tr, .ref ti, .ref s2, .ref s3, .ref n2])), (tr, .inr (5, [.ref sh])), (sh, .inr (4, [.ref ar, .int (nI n)])), (ar, .inl (cS, 40, .inr (.inr (.inr (.inr f))))), (gg, .inr (1, [.ref gr])), (gr, .inr (2, [.ref ce]))]) hnd (by rw [List.map_append, List.map_append, EW_fst, WW_fst]; rfl) rfl hR0
  have hD := q_D (RW := ([(ce, .inl (cG, 121, .inl fc))] ++ (EW ea wa pf cn dp oc ic lf pt n ++ WW wa wd n))) (sz := s.heap.size) hnd (by rw [List.map_append, List.map_append, EW_fst, WW_fst]; rfl)
  have hnR : (([(xo, .inr (8, [.ref gg, .ref tr, .ref ti, .ref s2, .ref s3, .ref n2])), (tr, .inr (5, [.ref sh])), (sh, .inr (4, [.ref ar, .int (nI n)])), (ar, .inl (cS, 40, .inr (.inr (.inr (.inr f))))), (gg, .inr (1, [.ref gr])), (gr, .inr (2, [.ref ce]))] : va_W).map (·.1)).Nodup := by rw [show ([(xo, .inr (8, [.ref gg, .ref tr, .ref ti, .ref s2, .ref s3, .ref n2])), (tr, .inr (5, [.ref sh])), (sh, .inr (4, [.ref ar, .int (nI n)])), (ar, .inl (cS, 40, .inr (.inr (.inr (.inr f))))), (gg, .inr (1, [.ref gr])), (gr, .inr (2, [.ref ce]))] : va_W).map (·.1) = [xo, tr, sh, ar, gg, gr] from rfl]; exact (List.nodup_append.mp hnd).2.1
  have hA : ∀ q : Nat, s.heap.size ≤ q → va_A ([(ce, .inl (cG, 121, .inl fc))] ++ (EW ea wa pf cn dp oc ic lf pt n ++ WW wa wd n)) s.heap.size q := fun q h => Or.inr h
  generalize hAe : va_A ([(ce, .inl (cG, 121, .inl fc))] ++ (EW ea wa pf cn dp oc ic lf pt n ++ WW wa wd n)) s.heap.size = A at hna hD hA hZ ⊢
  have hS : va_S A s.heap s.heap [] := va_S.rf
  have hR := hR0
  have hP : va_P D vwCl ([(ce, .inl (cG, 121, .inl fc))] ++ (EW ea wa pf cn dp oc ic lf pt n ++ WW wa wd n)) s.heap := hP
  obtain ⟨⟨tR, hZR, hTR⟩, ⟨tP, hZP, hTP⟩, hUS, hSS⟩ := id hZ
  have hl := lv_entry ([.ref xo, .long (lN a), .int x9]) (n := 5) (Nat.le_of_ble_eq_true rfl)
  rw [lg_entry_eq]
  generalize (lg_sl ([.ref xo, .long (lN a), .int x9]) ++ List.replicate (5 - (lg_sl ([.ref xo, .long (lN a), .int x9])).length) Slot.unset).toArray = ls at hl ⊢
  have hl : lv_has ls 5 [(0, .ref xo), (1, .long (lN a)), (3, .int x9)] := hl
  refine lv_lload_n hx hb dX9_treeCompared_0 rfl (lv_at hl 1 rfl) ?_
  have hF := va_free (wc := []) hD hS hA [] rfl
  refine vx_callq (vx_runS (As := [.long (lN a)]) (rest := []) ⟨hx, hb, hml, hown, hts⟩ (c_X9_wordOf (l := l) (D := D) (a := a) (sz := s.heap.size) (hnd := (q_nds (q_ndl (q_ndsw (q_ndg (l1 := [ce] ++ (rg ea n ++ rg wa n)) (l2 := [xo, tr, sh, ar, gg, gr]) hD hnR hna (by rw [List.map_append, List.map_append, EW_fst, WW_fst]; rfl) rfl))) [] rfl rfl)) (hst := hst) (ha := ha)) (va_cwS 1 hts gX9_treeCompared_X9_wordOf rfl rfl rfl (by decide +kernel) ⟨Nat.le_of_ble_eq_true rfl, Nat.le_of_ble_eq_true rfl⟩) ⟨qWx_blind, (qWx_of (q_Pof (fun _ h => absurd h List.not_mem_nil)) (q_Pof (fun _ h => absurd h List.not_mem_nil)) (hK.sub (tys' := []) [] rfl) hNw (qZ_at hZ hS (fun q h => hF q h)) hXt)⟩ rfl rfl hl.1 rfl (lv_room (Nat.le_of_ble_eq_true rfl)) dX9_treeCompared_1 ⟨Nat.le_of_ble_eq_true rfl, Nat.le_of_ble_eq_true rfl⟩) hS (fun q _ h => hF q h) hF (fun q _ h => hF q h) (fun E9 ce9 q9 u9 t9 H9 locs9 ht9 hvm9 hpx9 hBX9 hz9 hk9 hS9 hc9 hv9 hcl9 => ?_) (fun r_1 u_5 t_4 H_2 locs_3 ht hvm hr_1 hB hz1 hk1 hS => ?_)
  · obtain ⟨hE9, hW9⟩ := hBX9
    exact vx_out (fun x9 h9 => (htab x9 h9).elim) hlocks hc9 hv9 hcl9 (fun t8 ht8 hvm8 => ⟨(), trivial, ⟨⟨hE9.1, fun h9 => hE9.2 h9.1⟩, by show va_P D vwCl _ t8.heap; rw [ht8]; exact (q_keepP hP hk9 q_A0)⟩, ⟨by rw [ht8]; exact hS9.1, fun q8 a8 b8 => by rw [ht8]; exact hS9.2.1 q8 a8 b8⟩⟩) hS9.2.2 (Nat.le_of_ble_eq_true rfl) (Nat.le_of_ble_eq_true rfl)
  skip
  obtain ⟨w9_6, rfl⟩ : ∃ z, z = u_5 := ⟨_, rfl⟩
  obtain ⟨hB1, hB2, hB3⟩ := hB
  replace hB1 : va_P D vwCl ([] ++ [(w9_6, .inr (7, [.long (lN a), .int (nI (wl a)), .long (lN (al a))]))]) H_2 := by rw [← ht]; exact hB1
  obtain ⟨hP, hD⟩ := q_joinN (wc := []) (w1 := []) (wn := [(w9_6, .inr (7, [.long (lN a), .int (nI (wl a)), .long (lN (al a))]))]) (ws' := [(ce, .inl (cG, 121, .inl fc))] ++ (EW ea wa pf cn dp oc ic lf pt n ++ WW wa wd n)) [] hP hD rfl rfl hk1 hF hB1 hB2 rfl
  have hK : va_K D vwCl [(cG, .int), (cS, .object "FuzzyFens$Entry")] s := hK.app (va_K.moved hvm.symm hB3)
  have hP : va_P D vwCl ([(ce, .inl (cG, 121, .inl fc)), (w9_6, .inr (7, [.long (lN a), .int (nI (wl a)), .long (lN (al a))]))] ++ (EW ea wa pf cn dp oc ic lf pt n ++ WW wa wd n)) H_2 := q_Pperm (q_mv (X := [(ce, .inl (cG, 121, .inl fc))]) (T := (EW ea wa pf cn dp oc ic lf pt n ++ WW wa wd n)) (Y := [(w9_6, .inr (7, [.long (lN a), .int (nI (wl a)), .long (lN (al a))]))])) hP
  have hD : va_D A ([(ce, .inl (cG, 121, .inl fc)), (w9_6, .inr (7, [.long (lN a), .int (nI (wl a)), .long (lN (al a))]))] ++ (EW ea wa pf cn dp oc ic lf pt n ++ WW wa wd n)) := q_Dperm (q_mv (X := [(ce, .inl (cG, 121, .inl fc))]) (T := (EW ea wa pf cn dp oc ic lf pt n ++ WW wa wd n)) (Y := [(w9_6, .inr (7, [.long (lN a), .int (nI (wl a)), .long (lN (al a))]))])) hD
  have hR := q_ro hR0 hna hS
  obtain ⟨rfl, hgw⟩ := hr_1
  refine q_cvv (show va_rf (some w9_6) = .ref w9_6 from rfl) ?_
  refine lv_astore (lv' := [(4, .ref w9_6), (0, .ref xo), (1, .long (lN a)), (3, .int x9)]) hx hb dX9_treeCompared_4 hl (by decide) rfl (fun ls hl => ?_)
  refine lv_iload_n hx hb dX9_treeCompared_6 rfl (lv_at hl 3 rfl) ?_
  refine lv_iconst (v := nI 0) hx hb dX9_treeCompared_7 (by decide) ?_
  refine lv_iconst (v := nI 3) hx hb dX9_treeCompared_8 (by decide) ?_
  have hF := va_free (wc := []) hD hS hA [] rfl
  refine vx_callv (vx_runS (As := [.int x9, .int (nI 0), .int (nI 3)]) (rest := []) ⟨hx, hb, hml, hown, hts⟩ (c_X9_checkWithin (l := l) (D := D) (x9 := x9) (lo := 0) (hi := 3) (sz := H_2.size) (hnd := (q_nds (q_ndl (q_ndsw (q_ndg (l1 := [ce, w9_6] ++ (rg ea n ++ rg wa n)) (l2 := [xo, tr, sh, ar, gg, gr]) hD hnR hna (by rw [List.map_append, List.map_append, EW_fst, WW_fst]; rfl) rfl))) [] rfl rfl)) (hst := hst) (hlo := by omega) (hhi := by omega)) (va_cwS 3 hts gX9_treeCompared_X9_checkWithin rfl rfl rfl (by decide +kernel) ⟨Nat.le_of_ble_eq_true rfl, Nat.le_of_ble_eq_true rfl⟩) ⟨qWx_blind, (qWx_of (q_Pof (fun _ h => absurd h List.not_mem_nil)) (q_Pof (fun _ h => absurd h List.not_mem_nil)) (hK.sub (tys' := []) [] rfl) hNw (qZ_at hZ hS (fun q h => hF q h)) hXt)⟩ rfl rfl hl.1 rfl (lv_room (Nat.le_of_ble_eq_true rfl)) dX9_treeCompared_9 ⟨Nat.le_of_ble_eq_true rfl, Nat.le_of_ble_eq_true rfl⟩) hS (fun q _ h => hF q h) hF (fun q _ h => hF q h) (fun E9 ce9 q9 u9 t9 H9 locs9 ht9 hvm9 hpx9 hBX9 hz9 hk9 hS9 hc9 hv9 hcl9 => ?_) (fun u_11 t_10 H_8 locs_9 ht hvm hr_7 hB hz1 hk1 hS => ?_)
  · obtain ⟨hE9, hW9⟩ := hBX9
    exact vx_out (fun x9 h9 => (htab x9 h9).elim) hlocks hc9 hv9 hcl9 (fun t8 ht8 hvm8 => ⟨(), trivial, ⟨⟨hE9.1, fun h9 => hE9.2 h9.2⟩, by show va_P D vwCl _ t8.heap; rw [ht8]; exact (va_P.app (va_P.sub (ws' := [(ce, .inl (cG, 121, .inl fc))]) (q_keepP hP hk9 q_A0) [0] rfl) (q_right (q_keepP hP hk9 q_A0)))⟩, ⟨by rw [ht8]; exact hS9.1, fun q8 a8 b8 => by rw [ht8]; exact hS9.2.1 q8 a8 b8⟩⟩) hS9.2.2 (Nat.le_of_ble_eq_true rfl) (Nat.le_of_ble_eq_true rfl)
  skip
  replace hB : va_P D vwCl [] H_8 := by rw [← ht]; exact hB
  obtain ⟨hP, hD⟩ := q_join (wc := []) (w1 := []) (ws' := [(ce, .inl (cG, 121, .inl fc)), (w9_6, .inr (7, [.long (lN a), .int (nI (wl a)), .long (lN (al a))]))] ++ (EW ea wa pf cn dp oc ic lf pt n ++ WW wa wd n)) [] hP hD rfl rfl hk1 hB rfl
  have hR := q_ro hR0 hna hS
  have hcw := hr_7
  have hk9 := kz_le (m := 3) (by decide) hcw.1 hcw.2
  have hl : lv_has ls 5 [(4, .ref w9_6), (0, .ref xo), (1, .long (lN a)), (3, .int (nI (kz x9)))] := (congrArg (fun v9 => lv_has ls 5 [(4, .ref w9_6), (0, .ref xo), (1, .long (lN a)), (3, .int v9)]) (kz_of hcw.1)).mp hl
  refine lv_aload_n hx hb dX9_treeCompared_12 rfl (lv_at hl 1 rfl) ?_
  refine va_get (D := D) (own := RX9) (ref := "FuzzyFens") (ci := 8) (v := .ref tr) (C := RX9) (T := TX9) (N := 6) hx hb hts iX9_treeCompared_X9 hown hK hR 0 rfl rfl 1 (by decide) (hts (.fieldLink RX9 19 "FuzzyFens" "tree" "LFuzzyFens$Tree;") (List.mem_of_getElem? (i := 1) rfl)) (fun _ h9 => h9) rfl dX9_treeCompared_13 ?_
  refine lv_aload_n hx hb dX9_treeCompared_16 rfl (lv_at hl 1 rfl) ?_
  refine va_get (D := D) (own := RX9) (ref := "FuzzyFens") (ci := 8) (v := .ref gg) (C := RX9) (T := TX9) (N := 6) hx hb hts iX9_treeCompared_X9 hown hK hR 0 rfl rfl 0 (by decide) (hts (.fieldLink RX9 12 "FuzzyFens" "gauge" "LFuzzyFens$Gauge;") (List.mem_of_getElem? (i := 2) rfl)) (fun _ h9 => h9) rfl dX9_treeCompared_17 ?_
  refine lv_aload hx hb dX9_treeCompared_20 (lv_at hl 0 rfl) ?_
  refine lv_iload_n hx hb dX9_treeCompared_22 rfl (lv_at hl 3 rfl) ?_
  have hF := q_freeT (X := [(ce, .inl (cG, 121, .inl fc)), (w9_6, .inr (7, [.long (lN a), .int (nI (wl a)), .long (lN (al a))]))]) (T := (EW ea wa pf cn dp oc ic lf pt n ++ WW wa wd n)) (cx := [(ce, .inl (cG, 121, .inl fc))]) hD hS hA [0] rfl
  refine va_calli (va_runV (As := [.ref gg, .ref w9_6, .int (nI (kz x9))]) (rest := []) ⟨hx, hb, hml, hown, hts⟩ (c_X6_search (l := l) (D := D) (tr := tr) (sh := sh) (ar := ar) (cS := cS) (f := f) (g := gg) (gr := gr) (ce := ce) (cG := cG) (fc := fc) (w0 := w9_6) (v := a) (k := kz x9) (ea := ea) (wa := wa) (pf := pf) (cn := cn) (dp := dp) (oc := oc) (ic := ic) (lf := lf) (pt := pt) (wd := wd) (n := n) (pi := pi) (CC := CC) (sz := H_8.size) (hnd := (q_ndws (q_ndt (a' := [ce]) (b' := [tr, sh, ar, gg, gr, w9_6]) (q_ndsw (q_ndg (l1 := [ce, w9_6] ++ (rg ea n ++ rg wa n)) (l2 := [xo, tr, sh, ar, gg, gr]) hD hnR hna (by rw [List.map_append, List.map_append, EW_fst, WW_fst]; rfl) rfl)) [0, 3, 4, 5, 6, 7, 1] rfl rfl))) (hfe := hfe) (hn40 := hn40) (hg := hg) (hgv := hgw) (hpi := hpi) (hpn := hpn) (hcb := hcb) (hk3 := hk9) (hCq := hCq)) (cwV 3 hts gX9_treeCompared_X6_search rfl rfl rfl (by decide +kernel) ⟨Nat.le_of_ble_eq_true rfl, Nat.le_of_ble_eq_true rfl⟩) ⟨qW_blind, (va_recv hK hR (ci := 5) (q0 := 1) rfl rfl), (qW_of (show va_P D vwCl [(tr, .inr (5, [.ref sh])), (sh, .inr (4, [.ref ar, .int (nI n)])), (ar, .inl (cS, 40, .inr (.inr (.inr (.inr f))))), (gg, .inr (1, [.ref gr])), (gr, .inr (2, [.ref ce])), (w9_6, .inr (7, [.long (lN a), .int (nI (wl a)), .long (lN (al a))]))] _ from (va_P.app (hR.sub (ws' := [(tr, .inr (5, [.ref sh]))]) [1] rfl) (va_P.app (hR.sub (ws' := [(sh, .inr (4, [.ref ar, .int (nI n)]))]) [2] rfl) (va_P.app (hR.sub (ws' := [(ar, .inl (cS, 40, .inr (.inr (.inr (.inr f)))))]) [3] rfl) (va_P.app (hR.sub (ws' := [(gg, .inr (1, [.ref gr]))]) [4] rfl) (va_P.app (hR.sub (ws' := [(gr, .inr (2, [.ref ce]))]) [5] rfl) (hP.sub (ws' := [(w9_6, .inr (7, [.long (lN a), .int (nI (wl a)), .long (lN (al a))]))]) [1] rfl))))))) (va_P.app (hP.sub (ws' := [(ce, .inl (cG, 121, .inl fc))]) [0] rfl) (q_right hP)) (hK.sub (tys' := [(cG, .int), (cS, .object "FuzzyFens$Entry")]) [0, 1] rfl) hNw)⟩ rfl rfl hl.1 rfl (lv_room (Nat.le_of_ble_eq_true rfl)) dX9_treeCompared_23 ⟨Nat.le_of_ble_eq_true rfl, Nat.le_of_ble_eq_true rfl⟩) hS (fun q _ h => hF q h) hF (fun r_12 u_16 t_15 H_13 locs_14 ht hvm hr_12 hB hz1 hk1 hS => ?_)
  obtain ⟨fc2_17, ic2_18, lf2_19⟩ := u_16
  dsimp only at hr_12 hB
  replace hB : va_P D vwCl ([(ce, .inl (cG, 121, .inl fc2_17))] ++ (EW ea wa pf cn dp oc ic2_18 lf2_19 pt n ++ WW wa wd n)) H_13 := by rw [← ht]; exact hB
  obtain ⟨hP, hD⟩ := q_joinT (X := [(ce, .inl (cG, 121, .inl fc)), (w9_6, .inr (7, [.long (lN a), .int (nI (wl a)), .long (lN (al a))]))]) (T := (EW ea wa pf cn dp oc ic lf pt n ++ WW wa wd n)) (cx := [(ce, .inl (cG, 121, .inl fc))]) (cx' := [(ce, .inl (cG, 121, .inl fc2_17))]) (T' := (EW ea wa pf cn dp oc ic2_18 lf2_19 pt n ++ WW wa wd n)) (X' := [(ce, .inl (cG, 121, .inl fc2_17)), (w9_6, .inr (7, [.long (lN a), .int (nI (wl a)), .long (lN (al a))]))]) [0] hP hD rfl rfl (by simp only [List.map_append, EW_fst, WW_fst]) hk1 hB rfl
  have hR := q_ro hR0 hna hS
  subst hr_12
  refine vx_ret ?_
  refine W.widen (k := 2) (n := 12) (Nat.le_of_ble_eq_true rfl) (Nat.le_of_ble_eq_true rfl) ?_
  exact W.iret (v := nI (cnt CC n)) hx hb hr (fun t9 ht hW => ⟨⟨nI (cnt CC n), (fc2_17, ic2_18, lf2_19), rfl, ⟨rfl, ⟨hgw, hcw⟩⟩, by show va_P D vwCl _ t9.heap; rw [ht]; exact (va_P.app (va_P.sub (ws' := [(ce, .inl (cG, 121, .inl fc2_17))]) hP [0] rfl) (q_right hP))⟩, hS.F ht⟩) hS.2.2 dX9_treeCompared_26

set_option maxRecDepth 20000 in
theorem iX9_collectSequences_X8 : ∀ w ∈ wsX80, w ∈ wsX9_collectSequences := by decide +kernel
set_option maxRecDepth 20000 in
theorem iX9_collectSequences_X9 : ∀ w ∈ wsX90, w ∈ wsX9_collectSequences := by decide +kernel
set_option maxHeartbeats 4000000 in
set_option maxRecDepth 100000 in
/-- collectSequences -/
theorem c_X9_collectSequences (l : Launch) (D : va_G) (sz : Nat) (xo : Nat) (gg : Nat) (gr : Nat) (ce : Nat) (tr : Nat) (sh : Nat) (ar : Nat) (ti : Nat) (n1 : Nat) (l1 : Nat) (s2 : Nat) (a2 : Nat) (s3 : Nat) (a3 : Nat) (n2 : Nat) (l2 : Nat) (cJ2 : ClassId) (fs : Nat → Int64) (w0 : Nat) (v : Nat) (k : Nat) (hnd : ([n2, l2] ++ [xo, w0]).Nodup) (hgv : gw v) (hk3 : k ≤ 3) : Met l yX9_collectSequences wsX9_collectSequences { frames := 2, cells := 0, slots := 0, locals := 45 } (va_Pc [.ref xo, .ref w0, .int (nI k)] (qW D sz ([(xo, .inr (8, [.ref gg, .ref tr, .ref ti, .ref s2, .ref s3, .ref n2])), (w0, .inr (7, [.long (lN v), .int (nI (wl v)), .long (lN (al v))]))]) [(n2, .inr (3, [.ref l2, .int (nI 0)])), (l2, .inl (cJ2, 56, .inr (.inl fs)))] [(cJ2, .long)])) (va_Qv (fun (uv : (Nat → Int64)) => ∀ j, j < List.length (csq k v) → uv j = lN (List.getD (csq k v) j 0)) (fun (uv : (Nat → Int64)) (tv : State) => va_P D vwCl [(n2, .inr (3, [.ref l2, .int (nI (List.length (csq k v)))])), (l2, .inl (cJ2, 56, .inr (.inl uv)))] tv.heap) (va_A [(n2, .inr (3, [.ref l2, .int (nI 0)])), (l2, .inl (cJ2, 56, .inr (.inl fs)))] sz)) 0 0 (va_A [(n2, .inr (3, [.ref l2, .int (nI 0)])), (l2, .inl (cJ2, 56, .inr (.inl fs)))] sz) := by
  refine Met.ofW (cc := cX9_collectSequences) (maxL := 7) (ret := none) (by decide) rfl ?_
  intro pM eM s mi9 argsM belowM methM cM sM B hml hv
  obtain ⟨rfl, hsz, hR0, hP, hK, hNw⟩ := hv
  have hx := B.exec
  have hb := B.bytes
  have hr := B.returns
  have hts := atoms_spec (ws := wsX9_collectSequences) B.pre
  have hown : s.vm.findClass RX9 = some mi9.cls := findClass_of_methodNamed B.named
  have hlocks := B.notSynchronized
  subst hsz
  have hna := q_na (RW := [(n2, .inr (3, [.ref l2, .int (nI 0)])), (l2, .inl (cJ2, 56, .inr (.inl fs)))]) (RO := [(xo, .inr (8, [.ref gg, .ref tr, .ref ti, .ref s2, .ref s3, .ref n2])), (w0, .inr (7, [.long (lN v), .int (nI (wl v)), .long (lN (al v))]))]) hnd rfl rfl hR0
  have hD := q_D (RW := [(n2, .inr (3, [.ref l2, .int (nI 0)])), (l2, .inl (cJ2, 56, .inr (.inl fs)))]) (sz := s.heap.size) hnd rfl
  have hA : ∀ q : Nat, s.heap.size ≤ q → va_A [(n2, .inr (3, [.ref l2, .int (nI 0)])), (l2, .inl (cJ2, 56, .inr (.inl fs)))] s.heap.size q := fun q h => Or.inr h
  generalize hAe : va_A [(n2, .inr (3, [.ref l2, .int (nI 0)])), (l2, .inl (cJ2, 56, .inr (.inl fs)))] s.heap.size = A at hna hD hA ⊢
  have hS : va_S A s.heap s.heap [] := va_S.rf
  have hR := hR0
  have hP : va_P D vwCl [(n2, .inr (3, [.ref l2, .int (nI 0)])), (l2, .inl (cJ2, 56, .inr (.inl fs)))] s.heap := hP
  have hl := lv_entry ([.ref xo, .ref w0, .int (nI k)]) (n := 7) (Nat.le_of_ble_eq_true rfl)
  rw [lg_entry_eq]
  generalize (lg_sl ([.ref xo, .ref w0, .int (nI k)]) ++ List.replicate (7 - (lg_sl ([.ref xo, .ref w0, .int (nI k)])).length) Slot.unset).toArray = ls at hl ⊢
  have hl : lv_has ls 7 [(0, .ref xo), (1, .ref w0), (2, .int (nI k))] := hl
  have hwv := gw_wl hgv
  have hlv := gw_lt hgv
  have hb50 : v < 2 ^ 50 := by omega
  refine lv_aload_n hx hb dX9_collectSequences_0 rfl (lv_at hl 0 rfl) ?_
  refine va_get (D := D) (own := RX9) (ref := "FuzzyFens") (ci := 8) (v := .ref n2) (C := RX9) (T := TX9) (N := 6) hx hb hts iX9_collectSequences_X9 hown hK hR 0 rfl rfl 5 (by decide) (hts (.fieldLink RX9 45 "FuzzyFens" "sequences" "LFuzzyFens$NumberSet;") (List.mem_of_getElem? (i := 1) rfl)) (fun _ h9 => h9) rfl dX9_collectSequences_1 ?_
  refine lv_aload_n hx hb dX9_collectSequences_4 rfl (lv_at hl 1 rfl) ?_
  refine va_getN (host := "FuzzyFens") (D := D) (own := RX9) (ref := "FuzzyFens$Word") (ci := 7) (v := .long (lN v)) (C := RX8) (T := TX8) (N := 3) hx hb hts iX9_collectSequences_X8 hown hK hR 1 rfl rfl 0 (by decide) (va_Nw.use rfl (hNw.1 ("FuzzyFens", 154, "FuzzyFens$Word", "number", "J") (List.mem_of_getElem? (i := 1) rfl))) (fun _ h9 => h9) rfl dX9_collectSequences_5 ?_
  have hF := va_free (wc := [(n2, .inr (3, [.ref l2, .int (nI 0)])), (l2, .inl (cJ2, 56, .inr (.inl fs)))]) hD hS hA [0, 1] rfl
  refine va_callv (va_runV (As := [.long (lN v)]) (rest := []) ⟨hx, hb, hml, hown, hts⟩ (c_X4_put (l := l) (D := D) (ns := n2) (ar := l2) (cJ := cJ2) (N := 56) (f := fs) (L := ([] : List Nat)) (v := v) (sz := s.heap.size) (hnd := (q_nds hnd [0, 1] rfl rfl)) (hL := (fun j hj => absurd hj (Nat.not_lt_zero _))) (hLb := (fun j hj => absurd hj (Nat.not_lt_zero _))) (hN := by decide) (hN2 := by decide) (hv := by omega)) (cwV 1 hts gX9_collectSequences_X4_put rfl rfl rfl (by decide +kernel) ⟨Nat.le_of_ble_eq_true rfl, Nat.le_of_ble_eq_true rfl⟩) ⟨qW_blind, (va_recv hK hP (ci := 3) (q0 := 0) rfl rfl), (qW_of (q_Pof (fun _ h => absurd h List.not_mem_nil)) (hP.sub (ws' := [(n2, .inr (3, [.ref l2, .int (nI 0)])), (l2, .inl (cJ2, 56, .inr (.inl fs)))]) [0, 1] rfl) (hK.sub (tys' := [(cJ2, .long)]) [0] rfl) hNw)⟩ rfl rfl hl.1 rfl (lv_room (Nat.le_of_ble_eq_true rfl)) dX9_collectSequences_8 ⟨Nat.le_of_ble_eq_true rfl, Nat.le_of_ble_eq_true rfl⟩) hS (fun q _ h => hF q h) hF (fun u_5 t_4 H_2 locs_3 ht hvm hr_1 hB hz1 hk1 hS => ?_)
  obtain ⟨fs0, rfl⟩ : ∃ z, z = u_5 := ⟨_, rfl⟩
  replace hB : va_P D vwCl [(n2, .inr (3, [.ref l2, .int (nI (List.length (ins ([] : List Nat) v)))])), (l2, .inl (cJ2, 56, .inr (.inl fs0)))] H_2 := by rw [← ht]; exact hB
  obtain ⟨hP, hD⟩ := q_join (wc := [(n2, .inr (3, [.ref l2, .int (nI 0)])), (l2, .inl (cJ2, 56, .inr (.inl fs)))]) (w1 := [(n2, .inr (3, [.ref l2, .int (nI (List.length (ins ([] : List Nat) v)))])), (l2, .inl (cJ2, 56, .inr (.inl fs0)))]) (ws' := [(n2, .inr (3, [.ref l2, .int (nI (List.length (ins ([] : List Nat) v)))])), (l2, .inl (cJ2, 56, .inr (.inl fs0)))]) [0, 1] hP hD rfl rfl hk1 hB rfl
  have hR := q_ro hR0 hna hS
  have hct0 := hr_1
  refine lv_iconst (v := nI 0) hx hb dX9_collectSequences_11 (by decide) ?_
  refine lv_istore_n (lv' := [(3, .int (nI 0)), (0, .ref xo), (1, .ref w0), (2, .int (nI k))]) hx hb dX9_collectSequences_12 rfl hl (by decide) rfl (fun ls hl => ?_)
  refine q_loop (fun (x : (Nat) × (Nat → Int64)) (H : Heap) (locs : List Loc) (ls : Array Slot) => match x with | (p, fs1) => (p ≤ wl v) ∧ (p = 0 ∨ 1 ≤ k) ∧ (∀ j, j < List.length (cso k v p) → fs1 j = lN (List.getD (cso k v p) j 0)) ∧ va_P D vwCl [(n2, .inr (3, [.ref l2, .int (nI (List.length (cso k v p)))])), (l2, .inl (cJ2, 56, .inr (.inl fs1)))] H ∧ va_D A [(n2, .inr (3, [.ref l2, .int (nI (List.length (cso k v p)))])), (l2, .inl (cJ2, 56, .inr (.inl fs1)))] ∧ va_S A s.heap H locs ∧ lv_has ls 7 [(3, .int (nI p)), (0, .ref xo), (1, .ref w0), (2, .int (nI k))]) (fun (x : (Nat) × (Nat → Int64)) => match x with | (p, fs1) => wl v - p) (0, fs0) ⟨(by omega), (Or.inl rfl), hct0, hP, hD, hS, (lv_sub hl [0, 1, 2, 3] rfl)⟩ ?_
  clear hl
  clear hP hD hS
  rintro ⟨p, fs1⟩ H locs ls hI ih_13
  obtain ⟨hp, hpk, hS1, hP, hD, hS, hl⟩ := hI
  have hR := q_ro hR0 hna hS
  refine lv_iload_n hx hb dX9_collectSequences_13 rfl (lv_at hl 3 rfl) ?_
  refine lv_iconst (v := nI 1) hx hb dX9_collectSequences_14 (by decide) ?_
  refine q_icmp_lt (a := k) (b := 1) (tgt := 85) hx hb dX9_collectSequences_15 (by decide) (by omega) (by omega) (fun c_15 => ?_) (fun c_15 => ?_)
  · skip
    have e9 : csq k v = cso k v p := by unfold csq; rw [if_neg (by omega), show p = 0 by omega]
    exact W.vret hx hb hr (fun t9 ht hW => ⟨⟨fs1, rfl, (by rw [e9]; exact hS1), by show va_P D vwCl _ t9.heap; rw [ht, e9]; exact hP⟩, hS.F ht⟩) hS.2.2 dX9_collectSequences_85
  · skip
    refine lv_iload_n hx hb dX9_collectSequences_18 rfl (lv_at hl 0 rfl) ?_
    refine lv_aload_n hx hb dX9_collectSequences_19 rfl (lv_at hl 2 rfl) ?_
    refine va_getN (host := "FuzzyFens") (D := D) (own := RX9) (ref := "FuzzyFens$Word") (ci := 7) (v := .int (nI (wl v))) (C := RX8) (T := TX8) (N := 3) hx hb hts iX9_collectSequences_X8 hown hK hR 1 rfl rfl 1 (by decide) (va_Nw.use rfl (hNw.1 ("FuzzyFens", 204, "FuzzyFens$Word", "length", "I") (List.mem_of_getElem? (i := 4) rfl))) (fun _ h9 => h9) rfl dX9_collectSequences_20 ?_
    refine q_icmp_ge (a := p) (b := wl v) (tgt := 85) hx hb dX9_collectSequences_23 (by decide) (by omega) (by omega) (fun c_23 => ?_) (fun c_23 => ?_)
    · skip
      have e9 : csq k v = cso k v p := by unfold csq; rw [if_pos (by omega), show p = wl v by omega]
      exact W.vret hx hb hr (fun t9 ht hW => ⟨⟨fs1, rfl, (by rw [e9]; exact hS1), by show va_P D vwCl _ t9.heap; rw [ht, e9]; exact hP⟩, hS.F ht⟩) hS.2.2 dX9_collectSequences_85
    · skip
      refine lv_aload_n hx hb dX9_collectSequences_26 rfl (lv_at hl 2 rfl) ?_
      refine va_getN (host := "FuzzyFens") (D := D) (own := RX9) (ref := "FuzzyFens$Word") (ci := 7) (v := .long (lN v)) (C := RX8) (T := TX8) (N := 3) hx hb hts iX9_collectSequences_X8 hown hK hR 1 rfl rfl 0 (by decide) (va_Nw.use rfl (hNw.1 ("FuzzyFens", 154, "FuzzyFens$Word", "number", "J") (List.mem_of_getElem? (i := 1) rfl))) (fun _ h9 => h9) rfl dX9_collectSequences_27 ?_
      refine lv_iload_n hx hb dX9_collectSequences_30 rfl (lv_at hl 0 rfl) ?_
      refine vp_callSl (W.runS (As := [.long (lN v), .int (nI p)]) (rest := []) ⟨hx, hb, hml, hown, hts⟩ (c_X8_without (l := l) (D := D) (n := v) (p := p) (hn := by omega) (hp := by omega)) (va_cwS 2 hts gX9_collectSequences_X8_without rfl rfl rfl (by decide +kernel) ⟨Nat.le_of_ble_eq_true rfl, Nat.le_of_ble_eq_true rfl⟩) ⟨qP_blind, (qP_of (q_Pof (fun _ h => absurd h List.not_mem_nil)) (hK.sub (tys' := []) [] rfl) hNw)⟩ rfl rfl hl.1 rfl (lv_room (Nat.le_of_ble_eq_true rfl)) dX9_collectSequences_31 ⟨Nat.le_of_ble_eq_true rfl, Nat.le_of_ble_eq_true rfl⟩) (fun r_6 hr_6 => ?_)
      subst hr_6
      refine lv_lstore (lv' := [(4, .long (lN (wo v p))), (3, .int (nI p)), (0, .ref xo), (1, .ref w0), (2, .int (nI k))]) hx hb dX9_collectSequences_34 hl (by decide) rfl (fun ls hl => ?_)
      refine lv_aload_n hx hb dX9_collectSequences_36 rfl (lv_at hl 2 rfl) ?_
      refine va_get (D := D) (own := RX9) (ref := "FuzzyFens") (ci := 8) (v := .ref n2) (C := RX9) (T := TX9) (N := 6) hx hb hts iX9_collectSequences_X9 hown hK hR 0 rfl rfl 5 (by decide) (hts (.fieldLink RX9 45 "FuzzyFens" "sequences" "LFuzzyFens$NumberSet;") (List.mem_of_getElem? (i := 1) rfl)) (fun _ h9 => h9) rfl dX9_collectSequences_37 ?_
      refine lv_lload hx hb dX9_collectSequences_40 (lv_at hl 0 rfl) ?_
      have hF := va_free (wc := [(n2, .inr (3, [.ref l2, .int (nI (List.length (cso k v p)))])), (l2, .inl (cJ2, 56, .inr (.inl fs1)))]) hD hS hA [0, 1] rfl
      refine va_callv (va_runV (As := [.long (lN (wo v p))]) (rest := []) ⟨hx, hb, hml, hown, hts⟩ (c_X4_put (l := l) (D := D) (ns := n2) (ar := l2) (cJ := cJ2) (N := 56) (f := fs1) (L := cso k v p) (v := wo v p) (sz := H.size) (hnd := (q_nds hnd [0, 1] rfl rfl)) (hL := hS1) (hLb := (fun j hj => Nat.lt_trans (cso_bnd hb50 p j hj) (by decide))) (hN := by have := cso_len k v p; have := csb_46 p (by omega); omega) (hN2 := by decide) (hv := by have := wo_lt (n := v) (p := p); omega)) (cwV 1 hts gX9_collectSequences_X4_put rfl rfl rfl (by decide +kernel) ⟨Nat.le_of_ble_eq_true rfl, Nat.le_of_ble_eq_true rfl⟩) ⟨qW_blind, (va_recv hK hP (ci := 3) (q0 := 0) rfl rfl), (qW_of (q_Pof (fun _ h => absurd h List.not_mem_nil)) (hP.sub (ws' := [(n2, .inr (3, [.ref l2, .int (nI (List.length (cso k v p)))])), (l2, .inl (cJ2, 56, .inr (.inl fs1)))]) [0, 1] rfl) (hK.sub (tys' := [(cJ2, .long)]) [0] rfl) hNw)⟩ rfl rfl hl.1 rfl (lv_room (Nat.le_of_ble_eq_true rfl)) dX9_collectSequences_42 ⟨Nat.le_of_ble_eq_true rfl, Nat.le_of_ble_eq_true rfl⟩) hS (fun q _ h => hF q h) hF (fun u_11 t_10 H_8 locs_9 ht hvm hr_7 hB hz1 hk1 hS => ?_)
      obtain ⟨fs5, rfl⟩ : ∃ z, z = u_11 := ⟨_, rfl⟩
      replace hB : va_P D vwCl [(n2, .inr (3, [.ref l2, .int (nI (List.length (ins (cso k v p) (wo v p))))])), (l2, .inl (cJ2, 56, .inr (.inl fs5)))] H_8 := by rw [← ht]; exact hB
      obtain ⟨hP, hD⟩ := q_join (wc := [(n2, .inr (3, [.ref l2, .int (nI (List.length (cso k v p)))])), (l2, .inl (cJ2, 56, .inr (.inl fs1)))]) (w1 := [(n2, .inr (3, [.ref l2, .int (nI (List.length (ins (cso k v p) (wo v p))))])), (l2, .inl (cJ2, 56, .inr (.inl fs5)))]) (ws' := [(n2, .inr (3, [.ref l2, .int (nI (List.length (ins (cso k v p) (wo v p))))])), (l2, .inl (cJ2, 56, .inr (.inl fs5)))]) [0, 1] hP hD rfl rfl hk1 hB rfl
      have hR := q_ro hR0 hna hS
      have hct1 := hr_7
      refine lv_iconst (v := nI 0) hx hb dX9_collectSequences_45 (by decide) ?_
      refine lv_istore (lv' := [(6, .int (nI 0)), (4, .long (lN (wo v p))), (3, .int (nI p)), (0, .ref xo), (1, .ref w0), (2, .int (nI k))]) hx hb dX9_collectSequences_46 hl (by decide) rfl (fun ls hl => ?_)
      refine q_loop (fun (x : (Nat) × (Nat → Int64)) (H : Heap) (locs : List Loc) (ls : Array Slot) => match x with | (q, fs4) => (q ≤ p) ∧ (q = 0 ∨ 2 ≤ k) ∧ (∀ j, j < List.length (csi v p (ins (cso k v p) (wo v p)) q) → fs4 j = lN (List.getD (csi v p (ins (cso k v p) (wo v p)) q) j 0)) ∧ va_P D vwCl [(n2, .inr (3, [.ref l2, .int (nI (List.length (csi v p (ins (cso k v p) (wo v p)) q)))])), (l2, .inl (cJ2, 56, .inr (.inl fs4)))] H ∧ va_D A [(n2, .inr (3, [.ref l2, .int (nI (List.length (csi v p (ins (cso k v p) (wo v p)) q)))])), (l2, .inl (cJ2, 56, .inr (.inl fs4)))] ∧ va_S A s.heap H locs ∧ lv_has ls 7 [(6, .int (nI q)), (4, .long (lN (wo v p))), (3, .int (nI p)), (0, .ref xo), (1, .ref w0), (2, .int (nI k))]) (fun (x : (Nat) × (Nat → Int64)) => match x with | (q, fs4) => p - q) (0, fs5) ⟨(by omega), (Or.inl rfl), hct1, hP, hD, hS, (lv_sub hl [0, 1, 2, 3, 4, 5] rfl)⟩ ?_
      clear hl
      clear hP hD hS
      rintro ⟨q, fs4⟩ H locs ls hI ih_48
      obtain ⟨hq, hqk, hS2, hP, hD, hS, hl⟩ := hI
      have hR := q_ro hR0 hna hS
      refine lv_iload_n hx hb dX9_collectSequences_48 rfl (lv_at hl 5 rfl) ?_
      refine lv_iconst (v := nI 2) hx hb dX9_collectSequences_49 (by decide) ?_
      refine q_icmp_lt (a := k) (b := 2) (tgt := 79) hx hb dX9_collectSequences_50 (by decide) (by omega) (by omega) (fun c_50 => ?_) (fun c_50 => ?_)
      · skip
        refine lv_iinc (v := nI (p + 1)) (lv' := [(3, .int (nI (p + 1))), (6, .int (nI q)), (4, .long (lN (wo v p))), (0, .ref xo), (1, .ref w0), (2, .int (nI k))]) hx hb dX9_collectSequences_79 hl (k := 2) rfl (q_inc (k := 1) (by omega)) (by decide) rfl (fun ls hl => ?_)
        refine lv_goto (tgt := 13) hx hb dX9_collectSequences_82 (by decide) ?_
        have e9 : csi v p (ins (cso k v p) (wo v p)) q = cso k v (p + 1) := by rw [show q = 0 by omega]; exact (if_neg (by omega)).symm
        rw [e9] at hP hD hS2
        exact ih_13 (p + 1, fs4) _ _ _ ⟨(by omega), (by omega), hS2, hP, hD, hS, (lv_sub hl [0, 3, 4, 5] rfl)⟩ (by show wl v - (p + 1) < wl v - p; omega)
      · skip
        refine lv_iload hx hb dX9_collectSequences_53 (lv_at hl 0 rfl) ?_
        refine lv_iload_n hx hb dX9_collectSequences_55 rfl (lv_at hl 2 rfl) ?_
        refine q_icmp_ge (a := q) (b := p) (tgt := 79) hx hb dX9_collectSequences_56 (by decide) (by omega) (by omega) (fun c_56 => ?_) (fun c_56 => ?_)
        · skip
          refine lv_iinc (v := nI (p + 1)) (lv' := [(3, .int (nI (p + 1))), (6, .int (nI q)), (4, .long (lN (wo v p))), (0, .ref xo), (1, .ref w0), (2, .int (nI k))]) hx hb dX9_collectSequences_79 hl (k := 2) rfl (q_inc (k := 1) (by omega)) (by decide) rfl (fun ls hl => ?_)
          refine lv_goto (tgt := 13) hx hb dX9_collectSequences_82 (by decide) ?_
          have e9 : csi v p (ins (cso k v p) (wo v p)) q = cso k v (p + 1) := by rw [show q = p by omega]; exact (if_pos (by omega)).symm
          rw [e9] at hP hD hS2
          exact ih_13 (p + 1, fs4) _ _ _ ⟨(by omega), (by omega), hS2, hP, hD, hS, (lv_sub hl [0, 3, 4, 5] rfl)⟩ (by show wl v - (p + 1) < wl v - p; omega)
        · skip
          refine lv_aload_n hx hb dX9_collectSequences_59 rfl (lv_at hl 3 rfl) ?_
          refine va_get (D := D) (own := RX9) (ref := "FuzzyFens") (ci := 8) (v := .ref n2) (C := RX9) (T := TX9) (N := 6) hx hb hts iX9_collectSequences_X9 hown hK hR 0 rfl rfl 5 (by decide) (hts (.fieldLink RX9 45 "FuzzyFens" "sequences" "LFuzzyFens$NumberSet;") (List.mem_of_getElem? (i := 1) rfl)) (fun _ h9 => h9) rfl dX9_collectSequences_60 ?_
          refine lv_lload hx hb dX9_collectSequences_63 (lv_at hl 1 rfl) ?_
          refine lv_iload hx hb dX9_collectSequences_65 (lv_at hl 0 rfl) ?_
          refine vp_callSl (W.runS (As := [.long (lN (wo v p)), .int (nI q)]) (rest := [.ref n2]) ⟨hx, hb, hml, hown, hts⟩ (c_X8_without (l := l) (D := D) (n := wo v p) (p := q) (hn := by have := wo_lt (n := v) (p := p); omega) (hp := by omega)) (va_cwS 2 hts gX9_collectSequences_X8_without rfl rfl rfl (by decide +kernel) ⟨Nat.le_of_ble_eq_true rfl, Nat.le_of_ble_eq_true rfl⟩) ⟨qP_blind, (qP_of (q_Pof (fun _ h => absurd h List.not_mem_nil)) (hK.sub (tys' := []) [] rfl) hNw)⟩ rfl rfl hl.1 rfl (lv_room (Nat.le_of_ble_eq_true rfl)) dX9_collectSequences_67 ⟨Nat.le_of_ble_eq_true rfl, Nat.le_of_ble_eq_true rfl⟩) (fun r_12 hr_12 => ?_)
          subst hr_12
          have hF := va_free (wc := [(n2, .inr (3, [.ref l2, .int (nI (List.length (csi v p (ins (cso k v p) (wo v p)) q)))])), (l2, .inl (cJ2, 56, .inr (.inl fs4)))]) hD hS hA [0, 1] rfl
          refine va_callv (va_runV (As := [.long (lN (wo (wo v p) q))]) (rest := []) ⟨hx, hb, hml, hown, hts⟩ (c_X4_put (l := l) (D := D) (ns := n2) (ar := l2) (cJ := cJ2) (N := 56) (f := fs4) (L := csi v p (ins (cso k v p) (wo v p)) q) (v := wo (wo v p) q) (sz := H.size) (hnd := (q_nds hnd [0, 1] rfl rfl)) (hL := hS2) (hLb := (fun j hj => Nat.lt_trans (csi_bnd (Nat.lt_of_le_of_lt wo_lt hb50) (ins_bnd (cso_bnd hb50 p) (Nat.lt_of_le_of_lt wo_lt hb50)) q j hj) (by decide))) (hN := by have := cso_len k v p; have := csb_46 p (by omega); have := ins_len (cso k v p) (wo v p); have := csi_len v p (ins (cso k v p) (wo v p)) q; omega) (hN2 := by decide) (hv := by have := wo_lt (n := v) (p := p); have := wo_lt (n := wo v p) (p := q); omega)) (cwV 1 hts gX9_collectSequences_X4_put rfl rfl rfl (by decide +kernel) ⟨Nat.le_of_ble_eq_true rfl, Nat.le_of_ble_eq_true rfl⟩) ⟨qW_blind, (va_recv hK hP (ci := 3) (q0 := 0) rfl rfl), (qW_of (q_Pof (fun _ h => absurd h List.not_mem_nil)) (hP.sub (ws' := [(n2, .inr (3, [.ref l2, .int (nI (List.length (csi v p (ins (cso k v p) (wo v p)) q)))])), (l2, .inl (cJ2, 56, .inr (.inl fs4)))]) [0, 1] rfl) (hK.sub (tys' := [(cJ2, .long)]) [0] rfl) hNw)⟩ rfl rfl hl.1 rfl (lv_room (Nat.le_of_ble_eq_true rfl)) dX9_collectSequences_70 ⟨Nat.le_of_ble_eq_true rfl, Nat.le_of_ble_eq_true rfl⟩) hS (fun q _ h => hF q h) hF (fun u_17 t_16 H_14 locs_15 ht hvm hr_13 hB hz1 hk1 hS => ?_)
          obtain ⟨fs6, rfl⟩ : ∃ z, z = u_17 := ⟨_, rfl⟩
          replace hB : va_P D vwCl [(n2, .inr (3, [.ref l2, .int (nI (List.length (ins (csi v p (ins (cso k v p) (wo v p)) q) (wo (wo v p) q))))])), (l2, .inl (cJ2, 56, .inr (.inl fs6)))] H_14 := by rw [← ht]; exact hB
          obtain ⟨hP, hD⟩ := q_join (wc := [(n2, .inr (3, [.ref l2, .int (nI (List.length (csi v p (ins (cso k v p) (wo v p)) q)))])), (l2, .inl (cJ2, 56, .inr (.inl fs4)))]) (w1 := [(n2, .inr (3, [.ref l2, .int (nI (List.length (ins (csi v p (ins (cso k v p) (wo v p)) q) (wo (wo v p) q))))])), (l2, .inl (cJ2, 56, .inr (.inl fs6)))]) (ws' := [(n2, .inr (3, [.ref l2, .int (nI (List.length (ins (csi v p (ins (cso k v p) (wo v p)) q) (wo (wo v p) q))))])), (l2, .inl (cJ2, 56, .inr (.inl fs6)))]) [0, 1] hP hD rfl rfl hk1 hB rfl
          have hR := q_ro hR0 hna hS
          have hct2 := hr_13
          refine lv_iinc (v := nI (q + 1)) (lv' := [(6, .int (nI (q + 1))), (4, .long (lN (wo v p))), (3, .int (nI p)), (0, .ref xo), (1, .ref w0), (2, .int (nI k))]) hx hb dX9_collectSequences_73 hl (k := 0) rfl (q_inc (k := 1) (by omega)) (by decide) rfl (fun ls hl => ?_)
          refine lv_goto (tgt := 48) hx hb dX9_collectSequences_76 (by decide) ?_
          exact ih_48 (q + 1, fs6) _ _ _ ⟨(by omega), (by omega), hct2, hP, hD, hS, (lv_sub hl [0, 1, 2, 3, 4, 5] rfl)⟩ (by show p - (q + 1) < p - q; omega)

set_option maxRecDepth 20000 in
theorem iX9_neighbourhood_X9 : ∀ w ∈ wsX90, w ∈ wsX9_neighbourhood := by decide +kernel
set_option maxHeartbeats 4000000 in
set_option maxRecDepth 100000 in
/-- neighbourhood -/
theorem c_X9_neighbourhood (l : Launch) (D : va_G) (sz : Nat) (xo : Nat) (gg : Nat) (gr : Nat) (ce : Nat) (tr : Nat) (sh : Nat) (ar : Nat) (ti : Nat) (n1 : Nat) (l1 : Nat) (s2 : Nat) (a2 : Nat) (s3 : Nat) (a3 : Nat) (n2 : Nat) (l2 : Nat) (cJ2 : ClassId) (fs : Nat → Int64) (z2 : Int32) (a : Nat) (x9 : Int32) (hst : l.stackTraces = false) (hnd : ([n2, l2] ++ [xo]).Nodup) (ha : a < 2 ^ 64) : vx_Met l yX9_neighbourhood wsX9_neighbourhood { frames := 7, cells := 2, slots := 12, locals := 104 } (va_Pc [.ref xo, .long (lN a), .int x9] (qWx D sz ([(xo, .inr (8, [.ref gg, .ref tr, .ref ti, .ref s2, .ref s3, .ref n2]))]) [(n2, .inr (3, [.ref l2, .int z2])), (l2, .inl (cJ2, 56, .inr (.inl fs)))] [(cJ2, .long)])) (va_Qi (fun (rv : Int32) (uv : (Nat → Int64)) => rv = nI (List.length (csq (kz x9) a)) ∧ gw a ∧ 0 ≤ x9 ∧ x9 ≤ nI 2) (fun (uv : (Nat → Int64)) (tv : State) => va_P D vwCl [(n2, .inr (3, [.ref l2, .int (nI (List.length (csq (kz x9) a)))])), (l2, .inl (cJ2, 56, .inr (.inl uv)))] tv.heap) (va_A [(n2, .inr (3, [.ref l2, .int z2])), (l2, .inl (cJ2, 56, .inr (.inl fs)))] sz)) (vx_X (fun _ : Unit => True) (fun (E9 : String) (uv : Unit) (tv : State) => ((E9 = q_IA ∧ (¬ (gw a ∧ 0 ≤ x9 ∧ x9 ≤ nI 2)))) ∧ va_P D vwCl ([(n2, .inr (3, [.ref l2, .int z2])), (l2, .inl (cJ2, 56, .inr (.inl fs)))]) tv.heap) (va_A [(n2, .inr (3, [.ref l2, .int z2])), (l2, .inl (cJ2, 56, .inr (.inl fs)))] sz)) 2 12 (va_A [(n2, .inr (3, [.ref l2, .int z2])), (l2, .inl (cJ2, 56, .inr (.inl fs)))] sz) := by
  refine vx_ofW (cc := cX9_neighbourhood) (maxL := 5) (ret := (some .int)) (by decide) rfl ?_
  intro pM eM s mi9 argsM belowM methM cM sM B hml htab hv
  obtain ⟨rfl, hsz, hR0, hP, hK, hNw, hZ, hXt⟩ := hv
  have hx := B.exec
  have hb := B.bytes
  have hr := B.returns
  have hts := atoms_spec (ws := wsX9_neighbourhood) B.pre
  have hown : s.vm.findClass RX9 = some mi9.cls := findClass_of_methodNamed B.named
  have hlocks := B.notSynchronized
  subst hsz
  have hna := q_na (RW := [(n2, .inr (3, [.ref l2, .int z2])), (l2, .inl (cJ2, 56, .inr (.inl fs)))]) (RO := [(xo, .inr (8, [.ref gg, .ref tr, .ref ti, .ref s2, .ref s3, .ref n2]))]) hnd rfl rfl hR0
  have hD := q_D (RW := [(n2, .inr (3, [.ref l2, .int z2])), (l2, .inl (cJ2, 56, .inr (.inl fs)))]) (sz := s.heap.size) hnd rfl
  have hnR : (([(xo, .inr (8, [.ref gg, .ref tr, .ref ti, .ref s2, .ref s3, .ref n2]))] : va_W).map (·.1)).Nodup := by rw [show ([(xo, .inr (8, [.ref gg, .ref tr, .ref ti, .ref s2, .ref s3, .ref n2]))] : va_W).map (·.1) = [xo] from rfl]; exact (List.nodup_append.mp hnd).2.1
  have hA : ∀ q : Nat, s.heap.size ≤ q → va_A [(n2, .inr (3, [.ref l2, .int z2])), (l2, .inl (cJ2, 56, .inr (.inl fs)))] s.heap.size q := fun q h => Or.inr h
  generalize hAe : va_A [(n2, .inr (3, [.ref l2, .int z2])), (l2, .inl (cJ2, 56, .inr (.inl fs)))] s.heap.size = A at hna hD hA hZ ⊢
  have hS : va_S A s.heap s.heap [] := va_S.rf
  have hR := hR0
  have hP : va_P D vwCl [(n2, .inr (3, [.ref l2, .int z2])), (l2, .inl (cJ2, 56, .inr (.inl fs)))] s.heap := hP
  obtain ⟨⟨tR, hZR, hTR⟩, ⟨tP, hZP, hTP⟩, hUS, hSS⟩ := id hZ
  have hl := lv_entry ([.ref xo, .long (lN a), .int x9]) (n := 5) (Nat.le_of_ble_eq_true rfl)
  rw [lg_entry_eq]
  generalize (lg_sl ([.ref xo, .long (lN a), .int x9]) ++ List.replicate (5 - (lg_sl ([.ref xo, .long (lN a), .int x9])).length) Slot.unset).toArray = ls at hl ⊢
  have hl : lv_has ls 5 [(0, .ref xo), (1, .long (lN a)), (3, .int x9)] := hl
  refine lv_lload_n hx hb dX9_neighbourhood_0 rfl (lv_at hl 1 rfl) ?_
  have hF := va_free (wc := []) hD hS hA [] rfl
  refine vx_callq (vx_runS (As := [.long (lN a)]) (rest := []) ⟨hx, hb, hml, hown, hts⟩ (c_X9_wordOf (l := l) (D := D) (a := a) (sz := s.heap.size) (hnd := (q_nds hnd [] rfl rfl)) (hst := hst) (ha := ha)) (va_cwS 1 hts gX9_neighbourhood_X9_wordOf rfl rfl rfl (by decide +kernel) ⟨Nat.le_of_ble_eq_true rfl, Nat.le_of_ble_eq_true rfl⟩) ⟨qWx_blind, (qWx_of (q_Pof (fun _ h => absurd h List.not_mem_nil)) (q_Pof (fun _ h => absurd h List.not_mem_nil)) (hK.sub (tys' := []) [] rfl) hNw (qZ_at hZ hS (fun q h => hF q h)) hXt)⟩ rfl rfl hl.1 rfl (lv_room (Nat.le_of_ble_eq_true rfl)) dX9_neighbourhood_1 ⟨Nat.le_of_ble_eq_true rfl, Nat.le_of_ble_eq_true rfl⟩) hS (fun q _ h => hF q h) hF (fun q _ h => hF q h) (fun E9 ce9 q9 u9 t9 H9 locs9 ht9 hvm9 hpx9 hBX9 hz9 hk9 hS9 hc9 hv9 hcl9 => ?_) (fun r_1 u_5 t_4 H_2 locs_3 ht hvm hr_1 hB hz1 hk1 hS => ?_)
  · obtain ⟨hE9, hW9⟩ := hBX9
    exact vx_out (fun x9 h9 => (htab x9 h9).elim) hlocks hc9 hv9 hcl9 (fun t8 ht8 hvm8 => ⟨(), trivial, ⟨⟨hE9.1, fun h9 => hE9.2 h9.1⟩, by show va_P D vwCl _ t8.heap; rw [ht8]; exact (q_keepP hP hk9 q_A0)⟩, ⟨by rw [ht8]; exact hS9.1, fun q8 a8 b8 => by rw [ht8]; exact hS9.2.1 q8 a8 b8⟩⟩) hS9.2.2 (Nat.le_of_ble_eq_true rfl) (Nat.le_of_ble_eq_true rfl)
  skip
  obtain ⟨w9_6, rfl⟩ : ∃ z, z = u_5 := ⟨_, rfl⟩
  obtain ⟨hB1, hB2, hB3⟩ := hB
  replace hB1 : va_P D vwCl ([] ++ [(w9_6, .inr (7, [.long (lN a), .int (nI (wl a)), .long (lN (al a))]))]) H_2 := by rw [← ht]; exact hB1
  obtain ⟨hP, hD⟩ := q_joinN (wc := []) (w1 := []) (wn := [(w9_6, .inr (7, [.long (lN a), .int (nI (wl a)), .long (lN (al a))]))]) (ws' := [(n2, .inr (3, [.ref l2, .int z2])), (l2, .inl (cJ2, 56, .inr (.inl fs)))]) [] hP hD rfl rfl hk1 hF hB1 hB2 rfl
  have hK : va_K D vwCl [(cJ2, .long)] s := hK.app (va_K.moved hvm.symm hB3)
  have hP : va_P D vwCl [(n2, .inr (3, [.ref l2, .int z2])), (l2, .inl (cJ2, 56, .inr (.inl fs))), (w9_6, .inr (7, [.long (lN a), .int (nI (wl a)), .long (lN (al a))]))] H_2 := hP
  have hD : va_D A [(n2, .inr (3, [.ref l2, .int z2])), (l2, .inl (cJ2, 56, .inr (.inl fs))), (w9_6, .inr (7, [.long (lN a), .int (nI (wl a)), .long (lN (al a))]))] := hD
  have hR := q_ro hR0 hna hS
  obtain ⟨rfl, hgw⟩ := hr_1
  refine q_cvv (show va_rf (some w9_6) = .ref w9_6 from rfl) ?_
  refine lv_astore (lv' := [(4, .ref w9_6), (0, .ref xo), (1, .long (lN a)), (3, .int x9)]) hx hb dX9_neighbourhood_4 hl (by decide) rfl (fun ls hl => ?_)
  refine lv_iload_n hx hb dX9_neighbourhood_6 rfl (lv_at hl 3 rfl) ?_
  refine lv_iconst (v := nI 0) hx hb dX9_neighbourhood_7 (by decide) ?_
  refine lv_iconst (v := nI 2) hx hb dX9_neighbourhood_8 (by decide) ?_
  have hF := va_free (wc := []) hD hS hA [] rfl
  refine vx_callv (vx_runS (As := [.int x9, .int (nI 0), .int (nI 2)]) (rest := []) ⟨hx, hb, hml, hown, hts⟩ (c_X9_checkWithin (l := l) (D := D) (x9 := x9) (lo := 0) (hi := 2) (sz := H_2.size) (hnd := (q_nds (q_ndg (l1 := [n2, l2, w9_6]) (l2 := [xo]) hD hnR hna rfl rfl) [] rfl rfl)) (hst := hst) (hlo := by omega) (hhi := by omega)) (va_cwS 3 hts gX9_neighbourhood_X9_checkWithin rfl rfl rfl (by decide +kernel) ⟨Nat.le_of_ble_eq_true rfl, Nat.le_of_ble_eq_true rfl⟩) ⟨qWx_blind, (qWx_of (q_Pof (fun _ h => absurd h List.not_mem_nil)) (q_Pof (fun _ h => absurd h List.not_mem_nil)) (hK.sub (tys' := []) [] rfl) hNw (qZ_at hZ hS (fun q h => hF q h)) hXt)⟩ rfl rfl hl.1 rfl (lv_room (Nat.le_of_ble_eq_true rfl)) dX9_neighbourhood_9 ⟨Nat.le_of_ble_eq_true rfl, Nat.le_of_ble_eq_true rfl⟩) hS (fun q _ h => hF q h) hF (fun q _ h => hF q h) (fun E9 ce9 q9 u9 t9 H9 locs9 ht9 hvm9 hpx9 hBX9 hz9 hk9 hS9 hc9 hv9 hcl9 => ?_) (fun u_11 t_10 H_8 locs_9 ht hvm hr_7 hB hz1 hk1 hS => ?_)
  · obtain ⟨hE9, hW9⟩ := hBX9
    exact vx_out (fun x9 h9 => (htab x9 h9).elim) hlocks hc9 hv9 hcl9 (fun t8 ht8 hvm8 => ⟨(), trivial, ⟨⟨hE9.1, fun h9 => hE9.2 h9.2⟩, by show va_P D vwCl _ t8.heap; rw [ht8]; exact (va_P.sub (ws' := [(n2, .inr (3, [.ref l2, .int z2])), (l2, .inl (cJ2, 56, .inr (.inl fs)))]) (q_keepP hP hk9 q_A0) [0, 1] rfl)⟩, ⟨by rw [ht8]; exact hS9.1, fun q8 a8 b8 => by rw [ht8]; exact hS9.2.1 q8 a8 b8⟩⟩) hS9.2.2 (Nat.le_of_ble_eq_true rfl) (Nat.le_of_ble_eq_true rfl)
  skip
  replace hB : va_P D vwCl [] H_8 := by rw [← ht]; exact hB
  obtain ⟨hP, hD⟩ := q_join (wc := []) (w1 := []) (ws' := [(n2, .inr (3, [.ref l2, .int z2])), (l2, .inl (cJ2, 56, .inr (.inl fs))), (w9_6, .inr (7, [.long (lN a), .int (nI (wl a)), .long (lN (al a))]))]) [] hP hD rfl rfl hk1 hB rfl
  have hR := q_ro hR0 hna hS
  have hcw := hr_7
  have hkk := kz_le (m := 2) (by decide) hcw.1 hcw.2
  have hl : lv_has ls 5 [(4, .ref w9_6), (0, .ref xo), (1, .long (lN a)), (3, .int (nI (kz x9)))] := (congrArg (fun v9 => lv_has ls 5 [(4, .ref w9_6), (0, .ref xo), (1, .long (lN a)), (3, .int v9)]) (kz_of hcw.1)).mp hl
  refine lv_aload_n hx hb dX9_neighbourhood_12 rfl (lv_at hl 1 rfl) ?_
  refine va_get (D := D) (own := RX9) (ref := "FuzzyFens") (ci := 8) (v := .ref n2) (C := RX9) (T := TX9) (N := 6) hx hb hts iX9_neighbourhood_X9 hown hK hR 0 rfl rfl 5 (by decide) (hts (.fieldLink RX9 45 "FuzzyFens" "sequences" "LFuzzyFens$NumberSet;") (List.mem_of_getElem? (i := 1) rfl)) (fun _ h9 => h9) rfl dX9_neighbourhood_13 ?_
  have hF := va_free (wc := [(n2, .inr (3, [.ref l2, .int z2]))]) hD hS hA [0] rfl
  refine va_callv (va_runV (As := []) (rest := []) ⟨hx, hb, hml, hown, hts⟩ (c_X4_clear (l := l) (D := D) (ns := n2) (ar := l2) (z := z2) (sz := H_8.size) (hnd := (q_nds (q_ndg (l1 := [n2, l2, w9_6]) (l2 := [xo]) hD hnR hna rfl rfl) [0] rfl rfl)) ) (cwV 0 hts gX9_neighbourhood_X4_clear rfl rfl rfl (by decide +kernel) ⟨Nat.le_of_ble_eq_true rfl, Nat.le_of_ble_eq_true rfl⟩) ⟨qW_blind, (va_recv hK hP (ci := 3) (q0 := 0) rfl rfl), (qW_of (q_Pof (fun _ h => absurd h List.not_mem_nil)) (hP.sub (ws' := [(n2, .inr (3, [.ref l2, .int z2]))]) [0] rfl) (hK.sub (tys' := []) [] rfl) hNw)⟩ rfl rfl hl.1 rfl (lv_room (Nat.le_of_ble_eq_true rfl)) dX9_neighbourhood_16 ⟨Nat.le_of_ble_eq_true rfl, Nat.le_of_ble_eq_true rfl⟩) hS (fun q _ h => hF q h) hF (fun u_16 t_15 H_13 locs_14 ht hvm hr_12 hB hz1 hk1 hS => ?_)
  replace hB : va_P D vwCl [(n2, .inr (3, [.ref l2, .int (nI 0)]))] H_13 := by rw [← ht]; exact hB
  obtain ⟨hP, hD⟩ := q_join (wc := [(n2, .inr (3, [.ref l2, .int z2]))]) (w1 := [(n2, .inr (3, [.ref l2, .int (nI 0)]))]) (ws' := [(n2, .inr (3, [.ref l2, .int (nI 0)])), (l2, .inl (cJ2, 56, .inr (.inl fs))), (w9_6, .inr (7, [.long (lN a), .int (nI (wl a)), .long (lN (al a))]))]) [0] hP hD rfl rfl hk1 hB rfl
  have hR := q_ro hR0 hna hS
  refine lv_aload_n hx hb dX9_neighbourhood_19 rfl (lv_at hl 1 rfl) ?_
  refine lv_aload hx hb dX9_neighbourhood_20 (lv_at hl 0 rfl) ?_
  refine lv_iload_n hx hb dX9_neighbourhood_22 rfl (lv_at hl 3 rfl) ?_
  have hF := va_free (wc := [(n2, .inr (3, [.ref l2, .int (nI 0)])), (l2, .inl (cJ2, 56, .inr (.inl fs)))]) hD hS hA [0, 1] rfl
  refine va_callv (va_runV (As := [.ref w9_6, .int (nI (kz x9))]) (rest := []) ⟨hx, hb, hml, hown, hts⟩ (c_X9_collectSequences (l := l) (D := D) (xo := xo) (gg := gg) (gr := gr) (ce := ce) (tr := tr) (sh := sh) (ar := ar) (ti := ti) (n1 := n1) (l1 := l1) (s2 := s2) (a2 := a2) (s3 := s3) (a3 := a3) (n2 := n2) (l2 := l2) (cJ2 := cJ2) (fs := fs) (w0 := w9_6) (v := a) (k := kz x9) (sz := H_13.size) (hnd := (q_nds (q_ndg (l1 := [n2, l2, w9_6]) (l2 := [xo]) hD hnR hna rfl rfl) [0, 1, 3, 2] rfl rfl)) (hgv := hgw) (hk3 := by omega)) (cwV 2 hts gX9_neighbourhood_X9_collectSequences rfl rfl rfl (by decide +kernel) ⟨Nat.le_of_ble_eq_true rfl, Nat.le_of_ble_eq_true rfl⟩) ⟨qW_blind, (va_recv hK hR (ci := 8) (q0 := 0) rfl rfl), (qW_of (show va_P D vwCl [(xo, .inr (8, [.ref gg, .ref tr, .ref ti, .ref s2, .ref s3, .ref n2])), (w9_6, .inr (7, [.long (lN a), .int (nI (wl a)), .long (lN (al a))]))] _ from (va_P.app (hR.sub (ws' := [(xo, .inr (8, [.ref gg, .ref tr, .ref ti, .ref s2, .ref s3, .ref n2]))]) [0] rfl) (hP.sub (ws' := [(w9_6, .inr (7, [.long (lN a), .int (nI (wl a)), .long (lN (al a))]))]) [2] rfl))) (hP.sub (ws' := [(n2, .inr (3, [.ref l2, .int (nI 0)])), (l2, .inl (cJ2, 56, .inr (.inl fs)))]) [0, 1] rfl) (hK.sub (tys' := [(cJ2, .long)]) [0] rfl) hNw)⟩ rfl rfl hl.1 rfl (lv_room (Nat.le_of_ble_eq_true rfl)) dX9_neighbourhood_23 ⟨Nat.le_of_ble_eq_true rfl, Nat.le_of_ble_eq_true rfl⟩) hS (fun q _ h => hF q h) hF (fun u_21 t_20 H_18 locs_19 ht hvm hr_17 hB hz1 hk1 hS => ?_)
  obtain ⟨fs5, rfl⟩ : ∃ z, z = u_21 := ⟨_, rfl⟩
  replace hB : va_P D vwCl [(n2, .inr (3, [.ref l2, .int (nI (List.length (csq (kz x9) a)))])), (l2, .inl (cJ2, 56, .inr (.inl fs5)))] H_18 := by rw [← ht]; exact hB
  obtain ⟨hP, hD⟩ := q_join (wc := [(n2, .inr (3, [.ref l2, .int (nI 0)])), (l2, .inl (cJ2, 56, .inr (.inl fs)))]) (w1 := [(n2, .inr (3, [.ref l2, .int (nI (List.length (csq (kz x9) a)))])), (l2, .inl (cJ2, 56, .inr (.inl fs5)))]) (ws' := [(n2, .inr (3, [.ref l2, .int (nI (List.length (csq (kz x9) a)))])), (l2, .inl (cJ2, 56, .inr (.inl fs5))), (w9_6, .inr (7, [.long (lN a), .int (nI (wl a)), .long (lN (al a))]))]) [0, 1] hP hD rfl rfl hk1 hB rfl
  have hR := q_ro hR0 hna hS
  have hct := hr_17
  refine lv_aload_n hx hb dX9_neighbourhood_26 rfl (lv_at hl 1 rfl) ?_
  refine va_get (D := D) (own := RX9) (ref := "FuzzyFens") (ci := 8) (v := .ref n2) (C := RX9) (T := TX9) (N := 6) hx hb hts iX9_neighbourhood_X9 hown hK hR 0 rfl rfl 5 (by decide) (hts (.fieldLink RX9 45 "FuzzyFens" "sequences" "LFuzzyFens$NumberSet;") (List.mem_of_getElem? (i := 1) rfl)) (fun _ h9 => h9) rfl dX9_neighbourhood_27 ?_
  refine vp_callSi (W.runV (As := []) (rest := []) ⟨hx, hb, hml, hown, hts⟩ (c_X4_size (l := l) (D := D) (ns := n2) (ar := l2) (k := List.length (csq (kz x9) a)) ) (cwV 0 hts gX9_neighbourhood_X4_size rfl rfl rfl (by decide +kernel) ⟨Nat.le_of_ble_eq_true rfl, Nat.le_of_ble_eq_true rfl⟩) ⟨qP_blind, (va_recv hK hP (ci := 3) (q0 := 0) rfl rfl), (qP_of (hP.sub (ws' := [(n2, .inr (3, [.ref l2, .int (nI (List.length (csq (kz x9) a)))]))]) [0] rfl) (hK.sub (tys' := []) [] rfl) hNw)⟩ rfl rfl hl.1 rfl (lv_room (Nat.le_of_ble_eq_true rfl)) dX9_neighbourhood_30 ⟨Nat.le_of_ble_eq_true rfl, Nat.le_of_ble_eq_true rfl⟩) (fun r_22 hr_22 => ?_)
  subst hr_22
  refine vx_ret ?_
  refine W.widen (k := 2) (n := 12) (Nat.le_of_ble_eq_true rfl) (Nat.le_of_ble_eq_true rfl) ?_
  exact W.iret (v := nI (List.length (csq (kz x9) a))) hx hb hr (fun t9 ht hW => ⟨⟨nI (List.length (csq (kz x9) a)), fs5, rfl, ⟨rfl, ⟨hgw, hcw⟩⟩, by show va_P D vwCl _ t9.heap; rw [ht]; exact (va_P.sub (ws' := [(n2, .inr (3, [.ref l2, .int (nI (List.length (csq (kz x9) a)))])), (l2, .inl (cJ2, 56, .inr (.inl fs5)))]) hP [0, 1] rfl)⟩, hS.F ht⟩) hS.2.2 dX9_neighbourhood_33

set_option maxRecDepth 20000 in
theorem iX9_rank_X0 : ∀ w ∈ wsX00, w ∈ wsX9_rank := by decide +kernel
set_option maxRecDepth 20000 in
theorem iX9_rank_X9 : ∀ w ∈ wsX90, w ∈ wsX9_rank := by decide +kernel
set_option maxHeartbeats 4000000 in
set_option maxRecDepth 100000 in
/-- rank -/
theorem c_X9_rank (l : Launch) (D : va_G) (sz : Nat) (xo : Nat) (gg : Nat) (gr : Nat) (ce : Nat) (tr : Nat) (sh : Nat) (ar : Nat) (ti : Nat) (n1 : Nat) (l1 : Nat) (s2 : Nat) (a2 : Nat) (s3 : Nat) (a3 : Nat) (n2 : Nat) (l2 : Nat) (cS2 : ClassId) (fk : Nat → Option Nat) (m : Nat) (ki : Nat → Nat) (ea : Nat → Nat) (wa : Nat → Nat) (pf : Nat → Option Nat) (cn : Nat → Nat) (dp : Nat → Nat) (oc : Nat → Nat) (ic : Nat → Int32) (lf : Nat → Int32) (pt : Nat → Int32) (wd : Nat → Nat) (n : Nat) (cG : ClassId) (fc : Nat → Int32) (cS3 : ClassId) (fr : Nat → Option Nat) (z3 : Int32) (w0 : Nat) (v : Nat) (k : Nat) (hnd : (([s3, a3, ce] ++ (rg ea n ++ rg wa n)) ++ [xo, gg, gr, s2, a2, w0]).Nodup) (hm : m ≤ 40) (hf : ∀ j, j < m → fk j = some (ea (ki j))) (hki : ∀ j, j < m → ki j < n) (hg : ∀ k, k < n → gw (wd k)) (hgv : gw v) (hk3 : k ≤ 3) (hob : ∀ k, k < n → oc k < 2 ^ 31) : Met l yX9_rank wsX9_rank { frames := 5, cells := 0, slots := 0, locals := 117 } (va_Pc [.ref xo, .ref w0, .int (nI k)] (qWz D sz ([(xo, .inr (8, [.ref gg, .ref tr, .ref ti, .ref s2, .ref s3, .ref n2])), (gg, .inr (1, [.ref gr])), (gr, .inr (2, [.ref ce])), (s2, .inr (4, [.ref a2, .int (nI m)])), (a2, .inl (cS2, 40, .inr (.inr (.inr (.inr fk))))), (w0, .inr (7, [.long (lN v), .int (nI (wl v)), .long (lN (al v))]))]) ([(s3, .inr (4, [.ref a3, .int z3])), (a3, .inl (cS3, 40, .inr (.inr (.inr (.inr fr))))), (ce, .inl (cG, 121, .inl fc))] ++ (EW ea wa pf cn dp oc ic lf pt n ++ WW wa wd n)) [(cS3, .object "FuzzyFens$Entry"), (cG, .int), (cS2, .object "FuzzyFens$Entry")])) (va_Qv (fun (uv : (Nat → Option Nat) × (Nat → Int32) × (Nat → Int32)) => (∀ j, j < rkc wd oc ki v k m → uv.1 j = some (ea (rko wd oc ki v k m j))) ∧ (∀ j, j < rkc wd oc ki v k m → rko wd oc ki v k m j < n)) (fun (uv : (Nat → Option Nat) × (Nat → Int32) × (Nat → Int32)) (tv : State) => va_P D vwCl ([(s3, .inr (4, [.ref a3, .int (nI (rkc wd oc ki v k m))])), (a3, .inl (cS3, 40, .inr (.inr (.inr (.inr uv.1))))), (ce, .inl (cG, 121, .inl uv.2.1))] ++ (EW ea wa pf cn dp oc ic lf uv.2.2 n ++ WW wa wd n)) tv.heap) (va_A ([(s3, .inr (4, [.ref a3, .int z3])), (a3, .inl (cS3, 40, .inr (.inr (.inr (.inr fr))))), (ce, .inl (cG, 121, .inl fc))] ++ (EW ea wa pf cn dp oc ic lf pt n ++ WW wa wd n)) sz)) 0 0 (va_A ([(s3, .inr (4, [.ref a3, .int z3])), (a3, .inl (cS3, 40, .inr (.inr (.inr (.inr fr))))), (ce, .inl (cG, 121, .inl fc))] ++ (EW ea wa pf cn dp oc ic lf pt n ++ WW wa wd n)) sz) := by
  refine Met.ofW (cc := cX9_rank) (maxL := 5) (ret := none) (by decide) rfl ?_
  intro pM eM s mi9 argsM belowM methM cM sM B hml hv
  obtain ⟨rfl, hsz, hR0, hP, hK, hNw, hZ⟩ := hv
  have hx := B.exec
  have hb := B.bytes
  have hr := B.returns
  have hts := atoms_spec (ws := wsX9_rank) B.pre
  have hown : s.vm.findClass RX9 = some mi9.cls := findClass_of_methodNamed B.named
  have hlocks := B.notSynchronized
  subst hsz
  have hna := q_na (RW := ([(s3, .inr (4, [.ref a3, .int z3])), (a3, .inl (cS3, 40, .inr (.inr (.inr (.inr fr))))), (ce, .inl (cG, 121, .inl fc))] ++ (EW ea wa pf cn dp oc ic lf pt n ++ WW wa wd n))) (RO := [(xo, .inr (8, [.ref gg, .ref tr, .ref ti, .ref s2, .ref s3, .ref n2])), (gg, .inr (1, [.ref gr])), (gr, .inr (2, [.ref ce])), (s2, .inr (4, [.ref a2, .int (nI m)])), (a2, .inl (cS2, 40, .inr (.inr (.inr (.inr fk))))), (w0, .inr (7, [.long (lN v), .int (nI (wl v)), .long (lN (al v))]))]) hnd (by rw [List.map_append, List.map_append, EW_fst, WW_fst]; rfl) rfl hR0
  have hD := q_D (RW := ([(s3, .inr (4, [.ref a3, .int z3])), (a3, .inl (cS3, 40, .inr (.inr (.inr (.inr fr))))), (ce, .inl (cG, 121, .inl fc))] ++ (EW ea wa pf cn dp oc ic lf pt n ++ WW wa wd n))) (sz := s.heap.size) hnd (by rw [List.map_append, List.map_append, EW_fst, WW_fst]; rfl)
  have hnR : (([(xo, .inr (8, [.ref gg, .ref tr, .ref ti, .ref s2, .ref s3, .ref n2])), (gg, .inr (1, [.ref gr])), (gr, .inr (2, [.ref ce])), (s2, .inr (4, [.ref a2, .int (nI m)])), (a2, .inl (cS2, 40, .inr (.inr (.inr (.inr fk))))), (w0, .inr (7, [.long (lN v), .int (nI (wl v)), .long (lN (al v))]))] : va_W).map (·.1)).Nodup := by rw [show ([(xo, .inr (8, [.ref gg, .ref tr, .ref ti, .ref s2, .ref s3, .ref n2])), (gg, .inr (1, [.ref gr])), (gr, .inr (2, [.ref ce])), (s2, .inr (4, [.ref a2, .int (nI m)])), (a2, .inl (cS2, 40, .inr (.inr (.inr (.inr fk))))), (w0, .inr (7, [.long (lN v), .int (nI (wl v)), .long (lN (al v))]))] : va_W).map (·.1) = [xo, gg, gr, s2, a2, w0] from rfl]; exact (List.nodup_append.mp hnd).2.1
  have hA : ∀ q : Nat, s.heap.size ≤ q → va_A ([(s3, .inr (4, [.ref a3, .int z3])), (a3, .inl (cS3, 40, .inr (.inr (.inr (.inr fr))))), (ce, .inl (cG, 121, .inl fc))] ++ (EW ea wa pf cn dp oc ic lf pt n ++ WW wa wd n)) s.heap.size q := fun q h => Or.inr h
  generalize hAe : va_A ([(s3, .inr (4, [.ref a3, .int z3])), (a3, .inl (cS3, 40, .inr (.inr (.inr (.inr fr))))), (ce, .inl (cG, 121, .inl fc))] ++ (EW ea wa pf cn dp oc ic lf pt n ++ WW wa wd n)) s.heap.size = A at hna hD hA hZ ⊢
  have hS : va_S A s.heap s.heap [] := va_S.rf
  have hR := hR0
  have hP : va_P D vwCl ([(s3, .inr (4, [.ref a3, .int z3])), (a3, .inl (cS3, 40, .inr (.inr (.inr (.inr fr))))), (ce, .inl (cG, 121, .inl fc))] ++ (EW ea wa pf cn dp oc ic lf pt n ++ WW wa wd n)) s.heap := hP
  have hl := lv_entry ([.ref xo, .ref w0, .int (nI k)]) (n := 5) (Nat.le_of_ble_eq_true rfl)
  rw [lg_entry_eq]
  generalize (lg_sl ([.ref xo, .ref w0, .int (nI k)]) ++ List.replicate (5 - (lg_sl ([.ref xo, .ref w0, .int (nI k)])).length) Slot.unset).toArray = ls at hl ⊢
  have hl : lv_has ls 5 [(0, .ref xo), (1, .ref w0), (2, .int (nI k))] := hl
  have hwv := gw_wl hgv
  refine lv_aload_n hx hb dX9_rank_0 rfl (lv_at hl 0 rfl) ?_
  refine va_get (D := D) (own := RX9) (ref := "FuzzyFens") (ci := 8) (v := .ref s3) (C := RX9) (T := TX9) (N := 6) hx hb hts iX9_rank_X9 hown hK hR 0 rfl rfl 4 (by decide) (hts (.fieldLink RX9 37 "FuzzyFens" "ranked" "LFuzzyFens$Shelf;") (List.mem_of_getElem? (i := 1) rfl)) (fun _ h9 => h9) rfl dX9_rank_1 ?_
  have hF := va_free (wc := [(s3, .inr (4, [.ref a3, .int z3]))]) hD hS hA [0] rfl
  refine va_callv (va_runV (As := []) (rest := []) ⟨hx, hb, hml, hown, hts⟩ (c_X5_clear (l := l) (D := D) (sh := s3) (ar := a3) (z := z3) (sz := s.heap.size) (hnd := (q_nds (q_ndl (q_ndsw (q_ndg (l1 := [s3, a3, ce] ++ (rg ea n ++ rg wa n)) (l2 := [xo, gg, gr, s2, a2, w0]) hD hnR hna (by rw [List.map_append, List.map_append, EW_fst, WW_fst]; rfl) rfl))) [0] rfl rfl)) ) (cwV 0 hts gX9_rank_X5_clear rfl rfl rfl (by decide +kernel) ⟨Nat.le_of_ble_eq_true rfl, Nat.le_of_ble_eq_true rfl⟩) ⟨qW_blind, (va_recv hK hP (ci := 4) (q0 := 0) rfl rfl), (qW_of (q_Pof (fun _ h => absurd h List.not_mem_nil)) (hP.sub (ws' := [(s3, .inr (4, [.ref a3, .int z3]))]) [0] rfl) (hK.sub (tys' := []) [] rfl) hNw)⟩ rfl rfl hl.1 rfl (lv_room (Nat.le_of_ble_eq_true rfl)) dX9_rank_4 ⟨Nat.le_of_ble_eq_true rfl, Nat.le_of_ble_eq_true rfl⟩) hS (fun q _ h => hF q h) hF (fun u_5 t_4 H_2 locs_3 ht hvm hr_1 hB hz1 hk1 hS => ?_)
  replace hB : va_P D vwCl [(s3, .inr (4, [.ref a3, .int (nI 0)]))] H_2 := by rw [← ht]; exact hB
  obtain ⟨hP, hD⟩ := q_join (wc := [(s3, .inr (4, [.ref a3, .int z3]))]) (w1 := [(s3, .inr (4, [.ref a3, .int (nI 0)]))]) (ws' := [(s3, .inr (4, [.ref a3, .int (nI 0)])), (a3, .inl (cS3, 40, .inr (.inr (.inr (.inr fr))))), (ce, .inl (cG, 121, .inl fc))] ++ (EW ea wa pf cn dp oc ic lf pt n ++ WW wa wd n)) [0] hP hD rfl rfl hk1 hB rfl
  have hR := q_ro hR0 hna hS
  refine lv_iconst (v := nI 0) hx hb dX9_rank_7 (by decide) ?_
  refine lv_istore_n (lv' := [(3, .int (nI 0)), (0, .ref xo), (1, .ref w0), (2, .int (nI k))]) hx hb dX9_rank_8 rfl hl (by decide) rfl (fun ls hl => ?_)
  refine q_loop (fun (x : (Nat) × (Nat → Option Nat) × (Nat → Int32) × (Nat → Int32)) (H : Heap) (locs : List Loc) (ls : Array Slot) => match x with | (i, fr1, fc1, pt1) => (i ≤ m) ∧ (∀ j, j < rkc wd oc ki v k i → fr1 j = some (ea (rko wd oc ki v k i j))) ∧ (∀ j, j < rkc wd oc ki v k i → rko wd oc ki v k i j < n) ∧ (∀ j, j < rkc wd oc ki v k i → pt1 (rko wd oc ki v k i j) = nI (pzf wd v (rko wd oc ki v k i j))) ∧ va_P D vwCl ([(s3, .inr (4, [.ref a3, .int (nI (rkc wd oc ki v k i))])), (a3, .inl (cS3, 40, .inr (.inr (.inr (.inr fr1))))), (ce, .inl (cG, 121, .inl fc1))] ++ (EW ea wa pf cn dp oc ic lf pt1 n ++ WW wa wd n)) H ∧ va_D A ([(s3, .inr (4, [.ref a3, .int (nI (rkc wd oc ki v k i))])), (a3, .inl (cS3, 40, .inr (.inr (.inr (.inr fr1))))), (ce, .inl (cG, 121, .inl fc1))] ++ (EW ea wa pf cn dp oc ic lf pt1 n ++ WW wa wd n)) ∧ va_S A s.heap H locs ∧ lv_has ls 5 [(3, .int (nI i)), (0, .ref xo), (1, .ref w0), (2, .int (nI k))]) (fun (x : (Nat) × (Nat → Option Nat) × (Nat → Int32) × (Nat → Int32)) => match x with | (i, fr1, fc1, pt1) => m - i) (0, fr, fc, pt) ⟨(by omega), (fun j hj => absurd hj (Nat.not_lt_zero _)), (fun j hj => absurd hj (Nat.not_lt_zero _)), (fun j hj => absurd hj (Nat.not_lt_zero _)), hP, hD, hS, (lv_sub hl [0, 1, 2, 3] rfl)⟩ ?_
  clear hl
  clear hP hD hS
  rintro ⟨i, fr1, fc1, pt1⟩ H locs ls hI ih_9
  obtain ⟨hi, hfr, hkr, hpt, hP, hD, hS, hl⟩ := hI
  have hR := q_ro hR0 hna hS
  refine lv_iload_n hx hb dX9_rank_9 rfl (lv_at hl 0 rfl) ?_
  refine lv_aload_n hx hb dX9_rank_10 rfl (lv_at hl 1 rfl) ?_
  refine va_get (D := D) (own := RX9) (ref := "FuzzyFens") (ci := 8) (v := .ref s2) (C := RX9) (T := TX9) (N := 6) hx hb hts iX9_rank_X9 hown hK hR 0 rfl rfl 3 (by decide) (hts (.fieldLink RX9 33 "FuzzyFens" "knownWords" "LFuzzyFens$Shelf;") (List.mem_of_getElem? (i := 2) rfl)) (fun _ h9 => h9) rfl dX9_rank_11 ?_
  refine vp_callSi (W.runV (As := []) (rest := [.int (nI i)]) ⟨hx, hb, hml, hown, hts⟩ (c_X5_size (l := l) (D := D) (sh := s2) (ar := a2) (m := m) ) (cwV 0 hts gX9_rank_X5_size rfl rfl rfl (by decide +kernel) ⟨Nat.le_of_ble_eq_true rfl, Nat.le_of_ble_eq_true rfl⟩) ⟨qP_blind, (va_recv hK hR (ci := 4) (q0 := 3) rfl rfl), (qP_of (hR.sub (ws' := [(s2, .inr (4, [.ref a2, .int (nI m)]))]) [3] rfl) (hK.sub (tys' := []) [] rfl) hNw)⟩ rfl rfl hl.1 rfl (lv_room (Nat.le_of_ble_eq_true rfl)) dX9_rank_14 ⟨Nat.le_of_ble_eq_true rfl, Nat.le_of_ble_eq_true rfl⟩) (fun r_6 hr_6 => ?_)
  subst hr_6
  refine q_icmp_ge (a := i) (b := m) (tgt := 79) hx hb dX9_rank_17 (by decide) (by omega) (by omega) (fun c_17 => ?_) (fun c_17 => ?_)
  · skip
    have em : i = m := by omega
    refine W.widen (k := 0) (n := 0) (Nat.le_of_ble_eq_true rfl) (Nat.le_of_ble_eq_true rfl) ?_
    exact W.vret hx hb hr (fun t9 ht hW => ⟨⟨(fr1, fc1, pt1), rfl, ⟨(by rw [← em]; exact hfr), (by rw [← em]; exact hkr)⟩, by show va_P D vwCl _ t9.heap; rw [ht, ← em]; exact hP⟩, hS.F ht⟩) hS.2.2 dX9_rank_79
  · skip
    refine lv_aload_n hx hb dX9_rank_20 rfl (lv_at hl 1 rfl) ?_
    refine va_get (D := D) (own := RX9) (ref := "FuzzyFens") (ci := 8) (v := .ref s2) (C := RX9) (T := TX9) (N := 6) hx hb hts iX9_rank_X9 hown hK hR 0 rfl rfl 3 (by decide) (hts (.fieldLink RX9 33 "FuzzyFens" "knownWords" "LFuzzyFens$Shelf;") (List.mem_of_getElem? (i := 2) rfl)) (fun _ h9 => h9) rfl dX9_rank_21 ?_
    refine lv_iload_n hx hb dX9_rank_24 rfl (lv_at hl 0 rfl) ?_
    refine va_csq (W.runV (As := [.int (nI i)]) (rest := []) ⟨hx, hb, hml, hown, hts⟩ (c_X5_at (l := l) (D := D) (sh := s2) (ar := a2) (cS := cS2) (f := fk) (m := m) (i := i) (hi := by omega) (hm := hm)) (cwV 1 hts gX9_rank_X5_at rfl rfl rfl (by decide +kernel) ⟨Nat.le_of_ble_eq_true rfl, Nat.le_of_ble_eq_true rfl⟩) ⟨qP_blind, (va_recv hK hR (ci := 4) (q0 := 3) rfl rfl), (qP_of (hR.sub (ws' := [(s2, .inr (4, [.ref a2, .int (nI m)])), (a2, .inl (cS2, 40, .inr (.inr (.inr (.inr fk)))))]) [3, 4] rfl) (hK.sub (tys' := [(cS2, .object "FuzzyFens$Entry")]) [2] rfl) hNw)⟩ rfl rfl hl.1 rfl (lv_room (Nat.le_of_ble_eq_true rfl)) dX9_rank_25 ⟨Nat.le_of_ble_eq_true rfl, Nat.le_of_ble_eq_true rfl⟩) (fun r_7 hr_7 => ?_)
    subst hr_7
    have e9 : fk i = some (ea (ki i)) := hf _ (by omega)
    have hk9 := hki i (by omega)
    refine q_cvv (show va_rf (fk i) = .ref (ea (ki i)) from (by rw [e9]; rfl)) ?_
    refine lv_astore (lv' := [(4, .ref (ea (ki i))), (3, .int (nI i)), (0, .ref xo), (1, .ref w0), (2, .int (nI k))]) hx hb dX9_rank_28 hl (by decide) rfl (fun ls hl => ?_)
    refine lv_aload hx hb dX9_rank_30 (lv_at hl 0 rfl) ?_
    refine lv_ifnull hx hb dX9_rank_32 ?_
    refine lv_aload_n hx hb dX9_rank_35 rfl (lv_at hl 2 rfl) ?_
    refine lv_aload hx hb dX9_rank_36 (lv_at hl 0 rfl) ?_
    refine lv_aload_n hx hb dX9_rank_38 rfl (lv_at hl 3 rfl) ?_
    refine lv_iload_n hx hb dX9_rank_39 rfl (lv_at hl 4 rfl) ?_
    have hF := va_free (wc := [(ce, .inl (cG, 121, .inl fc1))]) hD hS hA [2] rfl
    refine va_calli (va_runV (As := [.ref (ea (ki i)), .ref w0, .int (nI k)]) (rest := []) ⟨hx, hb, hml, hown, hts⟩ (c_X9_isCorrection (l := l) (D := D) (xo := xo) (gg := gg) (gr := gr) (ce := ce) (tr := tr) (sh := sh) (ar := ar) (ti := ti) (n1 := n1) (l1 := l1) (s2 := s2) (a2 := a2) (s3 := s3) (a3 := a3) (n2 := n2) (l2 := l2) (cG := cG) (fc := fc1) (w0 := w0) (v := v) (i := (ki i)) (k := k) (ea := ea) (wa := wa) (pf := pf) (cn := cn) (dp := dp) (oc := oc) (ic := ic) (lf := lf) (pt := pt1) (wd := wd) (n := n) (sz := H.size) (hnd := (q_ndt (q_ndsw (q_ndg (l1 := [s3, a3, ce] ++ (rg ea n ++ rg wa n)) (l2 := [xo, gg, gr, s2, a2, w0]) hD hnR hna (by rw [List.map_append, List.map_append, EW_fst, WW_fst]; rfl) rfl)) [2, 3, 4, 5, 8] rfl rfl)) (hg := hg) (hgv := hgv) (hi := hk9) (hk3 := hk3)) (cwV 3 hts gX9_rank_X9_isCorrection rfl rfl rfl (by decide +kernel) ⟨Nat.le_of_ble_eq_true rfl, Nat.le_of_ble_eq_true rfl⟩) ⟨qW_blind, (va_recv hK hR (ci := 8) (q0 := 0) rfl rfl), (qW_of (va_P.app (hR.sub (ws' := [(xo, .inr (8, [.ref gg, .ref tr, .ref ti, .ref s2, .ref s3, .ref n2])), (gg, .inr (1, [.ref gr])), (gr, .inr (2, [.ref ce])), (w0, .inr (7, [.long (lN v), .int (nI (wl v)), .long (lN (al v))]))]) [0, 1, 2, 5] rfl) (q_right hP)) (hP.sub (ws' := [(ce, .inl (cG, 121, .inl fc1))]) [2] rfl) (hK.sub (tys' := [(cG, .int)]) [1] rfl) hNw)⟩ rfl rfl hl.1 rfl (lv_room (Nat.le_of_ble_eq_true rfl)) dX9_rank_40 ⟨Nat.le_of_ble_eq_true rfl, Nat.le_of_ble_eq_true rfl⟩) hS (fun q _ h => hF q h) hF (fun r_8 u_12 t_11 H_9 locs_10 ht hvm hr_8 hB hz1 hk1 hS => ?_)
    obtain ⟨fc2_13, rfl⟩ : ∃ z, z = u_12 := ⟨_, rfl⟩
    replace hB : va_P D vwCl [(ce, .inl (cG, 121, .inl fc2_13))] H_9 := by rw [← ht]; exact hB
    obtain ⟨hP, hD⟩ := q_join (wc := [(ce, .inl (cG, 121, .inl fc1))]) (w1 := [(ce, .inl (cG, 121, .inl fc2_13))]) (ws' := [(s3, .inr (4, [.ref a3, .int (nI (rkc wd oc ki v k i))])), (a3, .inl (cS3, 40, .inr (.inr (.inr (.inr fr1))))), (ce, .inl (cG, 121, .inl fc2_13))] ++ (EW ea wa pf cn dp oc ic lf pt1 n ++ WW wa wd n)) [2] hP hD rfl rfl hk1 hB rfl
    have hR := q_ro hR0 hna hS
    subst hr_8
    refine q_ifb_eq (tgt := 73) hx hb dX9_rank_43 (by decide) (fun c_43 => ?_) (fun c_43 => ?_)
    · skip
      refine lv_iinc (v := nI (i + 1)) (lv' := [(3, .int (nI (i + 1))), (4, .ref (ea (ki i))), (0, .ref xo), (1, .ref w0), (2, .int (nI k))]) hx hb dX9_rank_73 hl (k := 1) rfl (q_inc (k := 1) (by omega)) (by decide) rfl (fun ls hl => ?_)
      refine lv_goto (tgt := 9) hx hb dX9_rank_76 (by decide) ?_
      rw [← rkc_k (oc := oc) c_43] at hP hD
      exact ih_9 (i + 1, fr1, fc2_13, pt1) _ _ _ ⟨(by omega), (by rw [rkc_k c_43, rko_k c_43]; exact hfr), (by rw [rkc_k c_43, rko_k c_43]; exact hkr), (by rw [rkc_k c_43, rko_k c_43]; exact hpt), hP, hD, hS, (lv_sub hl [0, 2, 3, 4] rfl)⟩ (by show m - (i + 1) < m - i; omega)
    · skip
      refine lv_aload hx hb dX9_rank_46 (lv_at hl 0 rfl) ?_
      refine lv_aload_n hx hb dX9_rank_48 rfl (lv_at hl 2 rfl) ?_
      refine va_get (D := D) (own := RX9) (ref := "FuzzyFens") (ci := 8) (v := .ref gg) (C := RX9) (T := TX9) (N := 6) hx hb hts iX9_rank_X9 hown hK hR 0 rfl rfl 0 (by decide) (hts (.fieldLink RX9 12 "FuzzyFens" "gauge" "LFuzzyFens$Gauge;") (List.mem_of_getElem? (i := 3) rfl)) (fun _ h9 => h9) rfl dX9_rank_49 ?_
      refine lv_aload_n hx hb dX9_rank_52 rfl (lv_at hl 3 rfl) ?_
      refine lv_aload hx hb dX9_rank_53 (lv_at hl 0 rfl) ?_
      refine va_getN (host := "FuzzyFens") (D := D) (own := RX9) (ref := "FuzzyFens$Entry") (ci := 0) (v := .ref (wa (ki i))) (C := RX0) (T := TX0) (N := 8) hx hb hts iX9_rank_X0 hown hK (E_at hP (ki i) (by omega)) 0 rfl rfl 0 (by decide) (va_Nw.use rfl (hNw.1 ("FuzzyFens", 123, "FuzzyFens$Entry", "word", "LFuzzyFens$Word;") (List.mem_of_getElem? (i := 8) rfl))) (fun _ h9 => h9) rfl dX9_rank_55 ?_
      have hF := va_free (wc := [(ce, .inl (cG, 121, .inl fc2_13))]) hD hS hA [2] rfl
      refine va_calli (va_runV (As := [.ref w0, .ref (wa (ki i))]) (rest := [.ref (ea (ki i))]) ⟨hx, hb, hml, hown, hts⟩ (c_X1_cheapest (l := l) (D := D) (g := gg) (gr := gr) (ce := ce) (cG := cG) (f := fc2_13) (w := w0) (v := wa (ki i)) (a := v) (b := wd (ki i)) (sz := H_9.size) (hnd := (q_ndp (q_ndsw (q_ndg (l1 := [s3, a3, ce] ++ (rg ea n ++ rg wa n)) (l2 := [xo, gg, gr, s2, a2, w0]) hD hnR hna (by rw [List.map_append, List.map_append, EW_fst, WW_fst]; rfl) rfl)) [(2, ce), (4, gg), (5, gr), (8, w0), (9 + n + (ki i), wa (ki i))] (List.forall_mem_cons.mpr ⟨rfl, (List.forall_mem_cons.mpr ⟨rfl, (List.forall_mem_cons.mpr ⟨rfl, (List.forall_mem_cons.mpr ⟨rfl, (List.forall_mem_cons.mpr ⟨(wa_ix 9 rfl (ki i) (by omega)), (fun _ h => absurd h List.not_mem_nil)⟩)⟩)⟩)⟩)⟩) (by simp only [List.map_cons, List.map_nil, List.nodup_cons, List.mem_cons, List.not_mem_nil, or_false, not_or, List.nodup_nil, and_true, not_false_eq_true]; omega) rfl)) (hga := hgv) (hgb := hg _ hk9)) (cwV 2 hts gX9_rank_X1_cheapest rfl rfl rfl (by decide +kernel) ⟨Nat.le_of_ble_eq_true rfl, Nat.le_of_ble_eq_true rfl⟩) ⟨qWz_blind, (va_recv hK hR (ci := 1) (q0 := 1) rfl rfl), (qWz_of (show va_P D vwCl [(gg, .inr (1, [.ref gr])), (gr, .inr (2, [.ref ce])), (w0, .inr (7, [.long (lN v), .int (nI (wl v)), .long (lN (al v))])), (wa (ki i), .inr (7, [.long (lN (wd (ki i))), .int (nI (wl (wd (ki i)))), .long (lN (al (wd (ki i))))]))] _ from (va_P.app (hR.sub (ws' := [(gg, .inr (1, [.ref gr]))]) [1] rfl) (va_P.app (hR.sub (ws' := [(gr, .inr (2, [.ref ce]))]) [2] rfl) (va_P.app (hR.sub (ws' := [(w0, .inr (7, [.long (lN v), .int (nI (wl v)), .long (lN (al v))]))]) [5] rfl) ((W_at hP (ki i) (by omega))))))) (hP.sub (ws' := [(ce, .inl (cG, 121, .inl fc2_13))]) [2] rfl) (hK.sub (tys' := [(cG, .int)]) [1] rfl) hNw (qZ_at hZ hS (fun q h => hF q h)))⟩ rfl rfl hl.1 rfl (lv_room (Nat.le_of_ble_eq_true rfl)) dX9_rank_58 ⟨Nat.le_of_ble_eq_true rfl, Nat.le_of_ble_eq_true rfl⟩) hS (fun q _ h => hF q h) hF (fun r_14 u_18 t_17 H_15 locs_16 ht hvm hr_14 hB hz1 hk1 hS => ?_)
      obtain ⟨f2_19, rfl⟩ : ∃ z, z = u_18 := ⟨_, rfl⟩
      replace hB : va_P D vwCl [(ce, .inl (cG, 121, .inl f2_19))] H_15 := by rw [← ht]; exact hB
      obtain ⟨hP, hD⟩ := q_join (wc := [(ce, .inl (cG, 121, .inl fc2_13))]) (w1 := [(ce, .inl (cG, 121, .inl f2_19))]) (ws' := [(s3, .inr (4, [.ref a3, .int (nI (rkc wd oc ki v k i))])), (a3, .inl (cS3, 40, .inr (.inr (.inr (.inr fr1))))), (ce, .inl (cG, 121, .inl f2_19))] ++ (EW ea wa pf cn dp oc ic lf pt1 n ++ WW wa wd n)) [2] hP hD rfl rfl hk1 hB rfl
      have hR := q_ro hR0 hna hS
      subst hr_14
      refine q_cvi (show (nI (pr (ltz v) (ltz (wd (ki i))) (wl v) (wl (wd (ki i))))) = (nI (pzf wd v (ki i))) from rfl) ?_
      refine va_putN (host := "FuzzyFens") (D := D) (ci := 0) (v := .int (nI (pzf wd v (ki i)))) (ty := .int) (C := RX0) (T := TX0) (N := 8) hx hb hts iX9_rank_X0 tyX0 tyX0_ok nmX0 hown hK hP hD hS (3 + (ki i)) (EW_ix (X := [(s3, .inr (4, [.ref a3, .int (nI (rkc wd oc ki v k i))])), (a3, .inl (cS3, 40, .inr (.inr (.inr (.inr fr1))))), (ce, .inl (cG, 121, .inl f2_19))]) (Y := WW wa wd n) (ea := ea) (wa := wa) (pf := pf) (cn := cn) (dp := dp) (oc := oc) (ic := ic) (lf := lf) (pt := pt1) (n := n) 3 rfl (ki i) hk9) rfl 7 (by decide) (va_Nw.use rfl (hNw.1 ("FuzzyFens", 198, "FuzzyFens$Entry", "priceToRank", "I") (List.mem_of_getElem? (i := 16) rfl))) (fun _ h9 => h9) rfl (by decide +kernel) rfl rfl (Nat.le_of_ble_eq_true rfl) dX9_rank_61 (fun H_20 locs_21 hP hD hS => ?_)
      have hP : va_P D vwCl ([(s3, .inr (4, [.ref a3, .int (nI (rkc wd oc ki v k i))])), (a3, .inl (cS3, 40, .inr (.inr (.inr (.inr fr1))))), (ce, .inl (cG, 121, .inl f2_19))] ++ (EW ea wa pf cn dp oc ic lf (va_up pt1 (ki i) (nI (pzf wd v (ki i)))) n ++ WW wa wd n)) H_20 := (congrArg (fun w9 => va_P D vwCl w9 H_20) (EW_pt (X := [(s3, .inr (4, [.ref a3, .int (nI (rkc wd oc ki v k i))])), (a3, .inl (cS3, 40, .inr (.inr (.inr (.inr fr1))))), (ce, .inl (cG, 121, .inl f2_19))]) (Y := WW wa wd n) (ea := ea) (wa := wa) (pf := pf) (cn := cn) (dp := dp) (oc := oc) (ic := ic) (lf := lf) (pt := pt1) (n := n) 3 rfl (ki i) hk9 (nI (pzf wd v (ki i))))).mp hP
      have hD : va_D A ([(s3, .inr (4, [.ref a3, .int (nI (rkc wd oc ki v k i))])), (a3, .inl (cS3, 40, .inr (.inr (.inr (.inr fr1))))), (ce, .inl (cG, 121, .inl f2_19))] ++ (EW ea wa pf cn dp oc ic lf (va_up pt1 (ki i) (nI (pzf wd v (ki i)))) n ++ WW wa wd n)) := (congrArg (fun w9 => va_D A w9) (EW_pt (X := [(s3, .inr (4, [.ref a3, .int (nI (rkc wd oc ki v k i))])), (a3, .inl (cS3, 40, .inr (.inr (.inr (.inr fr1))))), (ce, .inl (cG, 121, .inl f2_19))]) (Y := WW wa wd n) (ea := ea) (wa := wa) (pf := pf) (cn := cn) (dp := dp) (oc := oc) (ic := ic) (lf := lf) (pt := pt1) (n := n) 3 rfl (ki i) hk9 (nI (pzf wd v (ki i))))).mp hD
      have hR := q_ro hR0 hna hS
      refine lv_aload_n hx hb dX9_rank_64 rfl (lv_at hl 2 rfl) ?_
      refine va_get (D := D) (own := RX9) (ref := "FuzzyFens") (ci := 8) (v := .ref s3) (C := RX9) (T := TX9) (N := 6) hx hb hts iX9_rank_X9 hown hK hR 0 rfl rfl 4 (by decide) (hts (.fieldLink RX9 37 "FuzzyFens" "ranked" "LFuzzyFens$Shelf;") (List.mem_of_getElem? (i := 1) rfl)) (fun _ h9 => h9) rfl dX9_rank_65 ?_
      refine lv_aload hx hb dX9_rank_68 (lv_at hl 0 rfl) ?_
      have hF := va_free (wc := [(s3, .inr (4, [.ref a3, .int (nI (rkc wd oc ki v k i))])), (a3, .inl (cS3, 40, .inr (.inr (.inr (.inr fr1)))))]) hD hS hA [0, 1] rfl
      refine va_callv (va_runV (As := [.ref (ea (ki i))]) (rest := []) ⟨hx, hb, hml, hown, hts⟩ (c_X5_insertByRank (l := l) (D := D) (sh := s3) (ar := a3) (cS := cS3) (f := fr1) (m := rkc wd oc ki v k i) (ki := (rko wd oc ki v k i)) (ke := (ki i)) (pz := (pzf wd v)) (ea := ea) (wa := wa) (pf := pf) (cn := cn) (dp := dp) (oc := oc) (ic := ic) (lf := lf) (pt := va_up pt1 (ki i) (nI (pzf wd v (ki i)))) (wd := wd) (n := n) (sz := H_20.size) (hnd := (q_ndt (q_ndsw (q_ndg (l1 := [s3, a3, ce] ++ (rg ea n ++ rg wa n)) (l2 := [xo, gg, gr, s2, a2, w0]) hD hnR hna (by rw [List.map_append, List.map_append, EW_fst, WW_fst]; rfl) rfl)) [0, 1] rfl rfl)) (hm := by have := rkc_le wd oc ki v k i; omega) (hke := hk9) (hg := hg) (hf := hfr) (hki := hkr) (hpz := (fun j hj => by by_cases e : rko wd oc ki v k i j = ki i; (rw [e, q_ups]); (rw [q_upn e]; exact hpt j hj))) (hpe := q_ups) (hpb := (fun j hj => by have := pzf_40 (wd := wd) hwv (gw_wl (hg _ (hkr j hj))); omega)) (hpb2 := (by have := pzf_40 (wd := wd) hwv (gw_wl (hg _ hk9)); omega)) (hob := hob)) (cwV 1 hts gX9_rank_X5_insertByRank rfl rfl rfl (by decide +kernel) ⟨Nat.le_of_ble_eq_true rfl, Nat.le_of_ble_eq_true rfl⟩) ⟨qW_blind, (va_recv hK hP (ci := 4) (q0 := 0) rfl rfl), (qW_of (va_P.app (q_Pof (fun _ h => absurd h List.not_mem_nil)) (q_right hP)) (hP.sub (ws' := [(s3, .inr (4, [.ref a3, .int (nI (rkc wd oc ki v k i))])), (a3, .inl (cS3, 40, .inr (.inr (.inr (.inr fr1)))))]) [0, 1] rfl) (hK.sub (tys' := [(cS3, .object "FuzzyFens$Entry")]) [0] rfl) hNw)⟩ rfl rfl hl.1 rfl (lv_room (Nat.le_of_ble_eq_true rfl)) dX9_rank_70 ⟨Nat.le_of_ble_eq_true rfl, Nat.le_of_ble_eq_true rfl⟩) hS (fun q _ h => hF q h) hF (fun u_26 t_25 H_23 locs_24 ht hvm hr_22 hB hz1 hk1 hS => ?_)
      obtain ⟨fr5, rfl⟩ : ∃ z, z = u_26 := ⟨_, rfl⟩
      replace hB : va_P D vwCl [(s3, .inr (4, [.ref a3, .int (nI ((rkc wd oc ki v k i) + 1))])), (a3, .inl (cS3, 40, .inr (.inr (.inr (.inr fr5)))))] H_23 := by rw [← ht]; exact hB
      obtain ⟨hP, hD⟩ := q_join (wc := [(s3, .inr (4, [.ref a3, .int (nI (rkc wd oc ki v k i))])), (a3, .inl (cS3, 40, .inr (.inr (.inr (.inr fr1)))))]) (w1 := [(s3, .inr (4, [.ref a3, .int (nI ((rkc wd oc ki v k i) + 1))])), (a3, .inl (cS3, 40, .inr (.inr (.inr (.inr fr5)))))]) (ws' := [(s3, .inr (4, [.ref a3, .int (nI ((rkc wd oc ki v k i) + 1))])), (a3, .inl (cS3, 40, .inr (.inr (.inr (.inr fr5))))), (ce, .inl (cG, 121, .inl f2_19))] ++ (EW ea wa pf cn dp oc ic lf (va_up pt1 (ki i) (nI (pzf wd v (ki i)))) n ++ WW wa wd n)) [0, 1] hP hD rfl rfl hk1 hB rfl
      have hR := q_ro hR0 hna hS
      have hin := hr_22
      refine lv_iinc (v := nI (i + 1)) (lv' := [(3, .int (nI (i + 1))), (4, .ref (ea (ki i))), (0, .ref xo), (1, .ref w0), (2, .int (nI k))]) hx hb dX9_rank_73 hl (k := 1) rfl (q_inc (k := 1) (by omega)) (by decide) rfl (fun ls hl => ?_)
      refine lv_goto (tgt := 9) hx hb dX9_rank_76 (by decide) ?_
      rw [← rkc_s (oc := oc) c_43] at hP hD
      exact ih_9 (i + 1, fr5, f2_19, va_up pt1 (ki i) (nI (pzf wd v (ki i)))) _ _ _ ⟨(by omega), (by rw [rkc_s c_43, rko_s c_43]; exact hin), (by rw [rkc_s c_43, rko_s c_43]; exact insF_all (P := fun x9 => x9 < n) (cnt_le _ _) hkr hk9), (by rw [rkc_s c_43, rko_s c_43]; exact insF_all (P := fun x9 => va_up pt1 (ki i) (nI (pzf wd v (ki i))) x9 = nI (pzf wd v x9)) (cnt_le _ _) (fun j hj => by by_cases e : rko wd oc ki v k i j = ki i; (rw [e, q_ups]); (rw [q_upn e]; exact hpt j hj)) q_ups), hP, hD, hS, (lv_sub hl [0, 2, 3, 4] rfl)⟩ (by show m - (i + 1) < m - i; omega)

set_option maxRecDepth 20000 in
theorem iX9_corrections_X9 : ∀ w ∈ wsX90, w ∈ wsX9_corrections := by decide +kernel
set_option maxHeartbeats 4000000 in
set_option maxRecDepth 100000 in
/-- corrections -/
theorem c_X9_corrections (l : Launch) (D : va_G) (sz : Nat) (xo : Nat) (gg : Nat) (gr : Nat) (ce : Nat) (tr : Nat) (sh : Nat) (ar : Nat) (ti : Nat) (n1 : Nat) (l1 : Nat) (s2 : Nat) (a2 : Nat) (s3 : Nat) (a3 : Nat) (n2 : Nat) (l2 : Nat) (cS2 : ClassId) (fk : Nat → Option Nat) (m : Nat) (ki : Nat → Nat) (ea : Nat → Nat) (wa : Nat → Nat) (pf : Nat → Option Nat) (cn : Nat → Nat) (dp : Nat → Nat) (oc : Nat → Nat) (ic : Nat → Int32) (lf : Nat → Int32) (pt : Nat → Int32) (wd : Nat → Nat) (n : Nat) (cG : ClassId) (fc : Nat → Int32) (cS3 : ClassId) (fr : Nat → Option Nat) (z3 : Int32) (a : Nat) (x9 : Int32) (hst : l.stackTraces = false) (hnd : (([s3, a3, ce] ++ (rg ea n ++ rg wa n)) ++ [xo, gg, gr, s2, a2]).Nodup) (ha : a < 2 ^ 64) (hm : m ≤ 40) (hf : ∀ j, j < m → fk j = some (ea (ki j))) (hki : ∀ j, j < m → ki j < n) (hg : ∀ k, k < n → gw (wd k)) (hob : ∀ k, k < n → oc k < 2 ^ 31) : vx_Met l yX9_corrections wsX9_corrections { frames := 7, cells := 2, slots := 12, locals := 141 } (va_Pc [.ref xo, .long (lN a), .int x9] (qWx D sz ([(xo, .inr (8, [.ref gg, .ref tr, .ref ti, .ref s2, .ref s3, .ref n2])), (gg, .inr (1, [.ref gr])), (gr, .inr (2, [.ref ce])), (s2, .inr (4, [.ref a2, .int (nI m)])), (a2, .inl (cS2, 40, .inr (.inr (.inr (.inr fk)))))]) ([(s3, .inr (4, [.ref a3, .int z3])), (a3, .inl (cS3, 40, .inr (.inr (.inr (.inr fr))))), (ce, .inl (cG, 121, .inl fc))] ++ (EW ea wa pf cn dp oc ic lf pt n ++ WW wa wd n)) [(cS3, .object "FuzzyFens$Entry"), (cG, .int), (cS2, .object "FuzzyFens$Entry")])) (va_Qi (fun (rv : Int32) (uv : (Nat → Option Nat) × (Nat → Int32) × (Nat → Int32)) => rv = nI (rkc wd oc ki a (kz x9) m) ∧ gw a ∧ 0 ≤ x9 ∧ x9 ≤ nI 3) (fun (uv : (Nat → Option Nat) × (Nat → Int32) × (Nat → Int32)) (tv : State) => va_P D vwCl ([(s3, .inr (4, [.ref a3, .int (nI (rkc wd oc ki a (kz x9) m))])), (a3, .inl (cS3, 40, .inr (.inr (.inr (.inr uv.1))))), (ce, .inl (cG, 121, .inl uv.2.1))] ++ (EW ea wa pf cn dp oc ic lf uv.2.2 n ++ WW wa wd n)) tv.heap) (va_A ([(s3, .inr (4, [.ref a3, .int z3])), (a3, .inl (cS3, 40, .inr (.inr (.inr (.inr fr))))), (ce, .inl (cG, 121, .inl fc))] ++ (EW ea wa pf cn dp oc ic lf pt n ++ WW wa wd n)) sz)) (vx_X (fun _ : Unit => True) (fun (E9 : String) (uv : Unit) (tv : State) => ((E9 = q_IA ∧ (¬ (gw a ∧ 0 ≤ x9 ∧ x9 ≤ nI 3)))) ∧ va_P D vwCl ([(s3, .inr (4, [.ref a3, .int z3])), (a3, .inl (cS3, 40, .inr (.inr (.inr (.inr fr))))), (ce, .inl (cG, 121, .inl fc))] ++ (EW ea wa pf cn dp oc ic lf pt n ++ WW wa wd n)) tv.heap) (va_A ([(s3, .inr (4, [.ref a3, .int z3])), (a3, .inl (cS3, 40, .inr (.inr (.inr (.inr fr))))), (ce, .inl (cG, 121, .inl fc))] ++ (EW ea wa pf cn dp oc ic lf pt n ++ WW wa wd n)) sz)) 2 12 (va_A ([(s3, .inr (4, [.ref a3, .int z3])), (a3, .inl (cS3, 40, .inr (.inr (.inr (.inr fr))))), (ce, .inl (cG, 121, .inl fc))] ++ (EW ea wa pf cn dp oc ic lf pt n ++ WW wa wd n)) sz) := by
  refine vx_ofW (cc := cX9_corrections) (maxL := 5) (ret := (some .int)) (by decide) rfl ?_
  intro pM eM s mi9 argsM belowM methM cM sM B hml htab hv
  obtain ⟨rfl, hsz, hR0, hP, hK, hNw, hZ, hXt⟩ := hv
  have hx := B.exec
  have hb := B.bytes
  have hr := B.returns
  have hts := atoms_spec (ws := wsX9_corrections) B.pre
  have hown : s.vm.findClass RX9 = some mi9.cls := findClass_of_methodNamed B.named
  have hlocks := B.notSynchronized
  subst hsz
  have hna := q_na (RW := ([(s3, .inr (4, [.ref a3, .int z3])), (a3, .inl (cS3, 40, .inr (.inr (.inr (.inr fr))))), (ce, .inl (cG, 121, .inl fc))] ++ (EW ea wa pf cn dp oc ic lf pt n ++ WW wa wd n))) (RO := [(xo, .inr (8, [.ref gg, .ref tr, .ref ti, .ref s2, .ref s3, .ref n2])), (gg, .inr (1, [.ref gr])), (gr, .inr (2, [.ref ce])), (s2, .inr (4, [.ref a2, .int (nI m)])), (a2, .inl (cS2, 40, .inr (.inr (.inr (.inr fk)))))]) hnd (by rw [List.map_append, List.map_append, EW_fst, WW_fst]; rfl) rfl hR0
  have hD := q_D (RW := ([(s3, .inr (4, [.ref a3, .int z3])), (a3, .inl (cS3, 40, .inr (.inr (.inr (.inr fr))))), (ce, .inl (cG, 121, .inl fc))] ++ (EW ea wa pf cn dp oc ic lf pt n ++ WW wa wd n))) (sz := s.heap.size) hnd (by rw [List.map_append, List.map_append, EW_fst, WW_fst]; rfl)
  have hnR : (([(xo, .inr (8, [.ref gg, .ref tr, .ref ti, .ref s2, .ref s3, .ref n2])), (gg, .inr (1, [.ref gr])), (gr, .inr (2, [.ref ce])), (s2, .inr (4, [.ref a2, .int (nI m)])), (a2, .inl (cS2, 40, .inr (.inr (.inr (.inr fk)))))] : va_W).map (·.1)).Nodup := by rw [show ([(xo, .inr (8, [.ref gg, .ref tr, .ref ti, .ref s2, .ref s3, .ref n2])), (gg, .inr (1, [.ref gr])), (gr, .inr (2, [.ref ce])), (s2, .inr (4, [.ref a2, .int (nI m)])), (a2, .inl (cS2, 40, .inr (.inr (.inr (.inr fk)))))] : va_W).map (·.1) = [xo, gg, gr, s2, a2] from rfl]; exact (List.nodup_append.mp hnd).2.1
  have hA : ∀ q : Nat, s.heap.size ≤ q → va_A ([(s3, .inr (4, [.ref a3, .int z3])), (a3, .inl (cS3, 40, .inr (.inr (.inr (.inr fr))))), (ce, .inl (cG, 121, .inl fc))] ++ (EW ea wa pf cn dp oc ic lf pt n ++ WW wa wd n)) s.heap.size q := fun q h => Or.inr h
  generalize hAe : va_A ([(s3, .inr (4, [.ref a3, .int z3])), (a3, .inl (cS3, 40, .inr (.inr (.inr (.inr fr))))), (ce, .inl (cG, 121, .inl fc))] ++ (EW ea wa pf cn dp oc ic lf pt n ++ WW wa wd n)) s.heap.size = A at hna hD hA hZ ⊢
  have hS : va_S A s.heap s.heap [] := va_S.rf
  have hR := hR0
  have hP : va_P D vwCl ([(s3, .inr (4, [.ref a3, .int z3])), (a3, .inl (cS3, 40, .inr (.inr (.inr (.inr fr))))), (ce, .inl (cG, 121, .inl fc))] ++ (EW ea wa pf cn dp oc ic lf pt n ++ WW wa wd n)) s.heap := hP
  obtain ⟨⟨tR, hZR, hTR⟩, ⟨tP, hZP, hTP⟩, hUS, hSS⟩ := id hZ
  have hl := lv_entry ([.ref xo, .long (lN a), .int x9]) (n := 5) (Nat.le_of_ble_eq_true rfl)
  rw [lg_entry_eq]
  generalize (lg_sl ([.ref xo, .long (lN a), .int x9]) ++ List.replicate (5 - (lg_sl ([.ref xo, .long (lN a), .int x9])).length) Slot.unset).toArray = ls at hl ⊢
  have hl : lv_has ls 5 [(0, .ref xo), (1, .long (lN a)), (3, .int x9)] := hl
  refine lv_lload_n hx hb dX9_corrections_0 rfl (lv_at hl 1 rfl) ?_
  have hF := va_free (wc := []) hD hS hA [] rfl
  refine vx_callq (vx_runS (As := [.long (lN a)]) (rest := []) ⟨hx, hb, hml, hown, hts⟩ (c_X9_wordOf (l := l) (D := D) (a := a) (sz := s.heap.size) (hnd := (q_nds (q_ndl (q_ndsw (q_ndg (l1 := [s3, a3, ce] ++ (rg ea n ++ rg wa n)) (l2 := [xo, gg, gr, s2, a2]) hD hnR hna (by rw [List.map_append, List.map_append, EW_fst, WW_fst]; rfl) rfl))) [] rfl rfl)) (hst := hst) (ha := ha)) (va_cwS 1 hts gX9_corrections_X9_wordOf rfl rfl rfl (by decide +kernel) ⟨Nat.le_of_ble_eq_true rfl, Nat.le_of_ble_eq_true rfl⟩) ⟨qWx_blind, (qWx_of (q_Pof (fun _ h => absurd h List.not_mem_nil)) (q_Pof (fun _ h => absurd h List.not_mem_nil)) (hK.sub (tys' := []) [] rfl) hNw (qZ_at hZ hS (fun q h => hF q h)) hXt)⟩ rfl rfl hl.1 rfl (lv_room (Nat.le_of_ble_eq_true rfl)) dX9_corrections_1 ⟨Nat.le_of_ble_eq_true rfl, Nat.le_of_ble_eq_true rfl⟩) hS (fun q _ h => hF q h) hF (fun q _ h => hF q h) (fun E9 ce9 q9 u9 t9 H9 locs9 ht9 hvm9 hpx9 hBX9 hz9 hk9 hS9 hc9 hv9 hcl9 => ?_) (fun r_1 u_5 t_4 H_2 locs_3 ht hvm hr_1 hB hz1 hk1 hS => ?_)
  · obtain ⟨hE9, hW9⟩ := hBX9
    exact vx_out (fun x9 h9 => (htab x9 h9).elim) hlocks hc9 hv9 hcl9 (fun t8 ht8 hvm8 => ⟨(), trivial, ⟨⟨hE9.1, fun h9 => hE9.2 h9.1⟩, by show va_P D vwCl _ t8.heap; rw [ht8]; exact (q_keepP hP hk9 q_A0)⟩, ⟨by rw [ht8]; exact hS9.1, fun q8 a8 b8 => by rw [ht8]; exact hS9.2.1 q8 a8 b8⟩⟩) hS9.2.2 (Nat.le_of_ble_eq_true rfl) (Nat.le_of_ble_eq_true rfl)
  skip
  obtain ⟨w9_6, rfl⟩ : ∃ z, z = u_5 := ⟨_, rfl⟩
  obtain ⟨hB1, hB2, hB3⟩ := hB
  replace hB1 : va_P D vwCl ([] ++ [(w9_6, .inr (7, [.long (lN a), .int (nI (wl a)), .long (lN (al a))]))]) H_2 := by rw [← ht]; exact hB1
  obtain ⟨hP, hD⟩ := q_joinN (wc := []) (w1 := []) (wn := [(w9_6, .inr (7, [.long (lN a), .int (nI (wl a)), .long (lN (al a))]))]) (ws' := [(s3, .inr (4, [.ref a3, .int z3])), (a3, .inl (cS3, 40, .inr (.inr (.inr (.inr fr))))), (ce, .inl (cG, 121, .inl fc))] ++ (EW ea wa pf cn dp oc ic lf pt n ++ WW wa wd n)) [] hP hD rfl rfl hk1 hF hB1 hB2 rfl
  have hK : va_K D vwCl [(cS3, .object "FuzzyFens$Entry"), (cG, .int), (cS2, .object "FuzzyFens$Entry")] s := hK.app (va_K.moved hvm.symm hB3)
  have hP : va_P D vwCl ([(s3, .inr (4, [.ref a3, .int z3])), (a3, .inl (cS3, 40, .inr (.inr (.inr (.inr fr))))), (ce, .inl (cG, 121, .inl fc)), (w9_6, .inr (7, [.long (lN a), .int (nI (wl a)), .long (lN (al a))]))] ++ (EW ea wa pf cn dp oc ic lf pt n ++ WW wa wd n)) H_2 := q_Pperm (q_mv (X := [(s3, .inr (4, [.ref a3, .int z3])), (a3, .inl (cS3, 40, .inr (.inr (.inr (.inr fr))))), (ce, .inl (cG, 121, .inl fc))]) (T := (EW ea wa pf cn dp oc ic lf pt n ++ WW wa wd n)) (Y := [(w9_6, .inr (7, [.long (lN a), .int (nI (wl a)), .long (lN (al a))]))])) hP
  have hD : va_D A ([(s3, .inr (4, [.ref a3, .int z3])), (a3, .inl (cS3, 40, .inr (.inr (.inr (.inr fr))))), (ce, .inl (cG, 121, .inl fc)), (w9_6, .inr (7, [.long (lN a), .int (nI (wl a)), .long (lN (al a))]))] ++ (EW ea wa pf cn dp oc ic lf pt n ++ WW wa wd n)) := q_Dperm (q_mv (X := [(s3, .inr (4, [.ref a3, .int z3])), (a3, .inl (cS3, 40, .inr (.inr (.inr (.inr fr))))), (ce, .inl (cG, 121, .inl fc))]) (T := (EW ea wa pf cn dp oc ic lf pt n ++ WW wa wd n)) (Y := [(w9_6, .inr (7, [.long (lN a), .int (nI (wl a)), .long (lN (al a))]))])) hD
  have hR := q_ro hR0 hna hS
  obtain ⟨rfl, hgw⟩ := hr_1
  refine q_cvv (show va_rf (some w9_6) = .ref w9_6 from rfl) ?_
  refine lv_astore (lv' := [(4, .ref w9_6), (0, .ref xo), (1, .long (lN a)), (3, .int x9)]) hx hb dX9_corrections_4 hl (by decide) rfl (fun ls hl => ?_)
  refine lv_iload_n hx hb dX9_corrections_6 rfl (lv_at hl 3 rfl) ?_
  refine lv_iconst (v := nI 0) hx hb dX9_corrections_7 (by decide) ?_
  refine lv_iconst (v := nI 3) hx hb dX9_corrections_8 (by decide) ?_
  have hF := va_free (wc := []) hD hS hA [] rfl
  refine vx_callv (vx_runS (As := [.int x9, .int (nI 0), .int (nI 3)]) (rest := []) ⟨hx, hb, hml, hown, hts⟩ (c_X9_checkWithin (l := l) (D := D) (x9 := x9) (lo := 0) (hi := 3) (sz := H_2.size) (hnd := (q_nds (q_ndl (q_ndsw (q_ndg (l1 := [s3, a3, ce, w9_6] ++ (rg ea n ++ rg wa n)) (l2 := [xo, gg, gr, s2, a2]) hD hnR hna (by rw [List.map_append, List.map_append, EW_fst, WW_fst]; rfl) rfl))) [] rfl rfl)) (hst := hst) (hlo := by omega) (hhi := by omega)) (va_cwS 3 hts gX9_corrections_X9_checkWithin rfl rfl rfl (by decide +kernel) ⟨Nat.le_of_ble_eq_true rfl, Nat.le_of_ble_eq_true rfl⟩) ⟨qWx_blind, (qWx_of (q_Pof (fun _ h => absurd h List.not_mem_nil)) (q_Pof (fun _ h => absurd h List.not_mem_nil)) (hK.sub (tys' := []) [] rfl) hNw (qZ_at hZ hS (fun q h => hF q h)) hXt)⟩ rfl rfl hl.1 rfl (lv_room (Nat.le_of_ble_eq_true rfl)) dX9_corrections_9 ⟨Nat.le_of_ble_eq_true rfl, Nat.le_of_ble_eq_true rfl⟩) hS (fun q _ h => hF q h) hF (fun q _ h => hF q h) (fun E9 ce9 q9 u9 t9 H9 locs9 ht9 hvm9 hpx9 hBX9 hz9 hk9 hS9 hc9 hv9 hcl9 => ?_) (fun u_11 t_10 H_8 locs_9 ht hvm hr_7 hB hz1 hk1 hS => ?_)
  · obtain ⟨hE9, hW9⟩ := hBX9
    exact vx_out (fun x9 h9 => (htab x9 h9).elim) hlocks hc9 hv9 hcl9 (fun t8 ht8 hvm8 => ⟨(), trivial, ⟨⟨hE9.1, fun h9 => hE9.2 h9.2⟩, by show va_P D vwCl _ t8.heap; rw [ht8]; exact (va_P.app (va_P.sub (ws' := [(s3, .inr (4, [.ref a3, .int z3])), (a3, .inl (cS3, 40, .inr (.inr (.inr (.inr fr))))), (ce, .inl (cG, 121, .inl fc))]) (q_keepP hP hk9 q_A0) [0, 1, 2] rfl) (q_right (q_keepP hP hk9 q_A0)))⟩, ⟨by rw [ht8]; exact hS9.1, fun q8 a8 b8 => by rw [ht8]; exact hS9.2.1 q8 a8 b8⟩⟩) hS9.2.2 (Nat.le_of_ble_eq_true rfl) (Nat.le_of_ble_eq_true rfl)
  skip
  replace hB : va_P D vwCl [] H_8 := by rw [← ht]; exact hB
  obtain ⟨hP, hD⟩ := q_join (wc := []) (w1 := []) (ws' := [(s3, .inr (4, [.ref a3, .int z3])), (a3, .inl (cS3, 40, .inr (.inr (.inr (.inr fr))))), (ce, .inl (cG, 121, .inl fc)), (w9_6, .inr (7, [.long (lN a), .int (nI (wl a)), .long (lN (al a))]))] ++ (EW ea wa pf cn dp oc ic lf pt n ++ WW wa wd n)) [] hP hD rfl rfl hk1 hB rfl
  have hR := q_ro hR0 hna hS
  have hcw := hr_7
  have hk9 := kz_le (m := 3) (by decide) hcw.1 hcw.2
  have hl : lv_has ls 5 [(4, .ref w9_6), (0, .ref xo), (1, .long (lN a)), (3, .int (nI (kz x9)))] := (congrArg (fun v9 => lv_has ls 5 [(4, .ref w9_6), (0, .ref xo), (1, .long (lN a)), (3, .int v9)]) (kz_of hcw.1)).mp hl
  refine lv_aload_n hx hb dX9_corrections_12 rfl (lv_at hl 1 rfl) ?_
  refine lv_aload hx hb dX9_corrections_13 (lv_at hl 0 rfl) ?_
  refine lv_iload_n hx hb dX9_corrections_15 rfl (lv_at hl 3 rfl) ?_
  have hF := q_freeT (X := [(s3, .inr (4, [.ref a3, .int z3])), (a3, .inl (cS3, 40, .inr (.inr (.inr (.inr fr))))), (ce, .inl (cG, 121, .inl fc)), (w9_6, .inr (7, [.long (lN a), .int (nI (wl a)), .long (lN (al a))]))]) (T := (EW ea wa pf cn dp oc ic lf pt n ++ WW wa wd n)) (cx := [(s3, .inr (4, [.ref a3, .int z3])), (a3, .inl (cS3, 40, .inr (.inr (.inr (.inr fr))))), (ce, .inl (cG, 121, .inl fc))]) hD hS hA [0, 1, 2] rfl
  refine va_callv (va_runV (As := [.ref w9_6, .int (nI (kz x9))]) (rest := []) ⟨hx, hb, hml, hown, hts⟩ (c_X9_rank (l := l) (D := D) (xo := xo) (gg := gg) (gr := gr) (ce := ce) (tr := tr) (sh := sh) (ar := ar) (ti := ti) (n1 := n1) (l1 := l1) (s2 := s2) (a2 := a2) (s3 := s3) (a3 := a3) (n2 := n2) (l2 := l2) (cS2 := cS2) (fk := fk) (m := m) (ki := ki) (ea := ea) (wa := wa) (pf := pf) (cn := cn) (dp := dp) (oc := oc) (ic := ic) (lf := lf) (pt := pt) (wd := wd) (n := n) (cG := cG) (fc := fc) (cS3 := cS3) (fr := fr) (z3 := z3) (w0 := w9_6) (v := a) (k := kz x9) (sz := H_8.size) (hnd := (q_ndws (q_ndt (a' := [s3, a3, ce]) (b' := [xo, gg, gr, s2, a2, w9_6]) (q_ndsw (q_ndg (l1 := [s3, a3, ce, w9_6] ++ (rg ea n ++ rg wa n)) (l2 := [xo, gg, gr, s2, a2]) hD hnR hna (by rw [List.map_append, List.map_append, EW_fst, WW_fst]; rfl) rfl)) [0, 1, 2, 4, 5, 6, 7, 8, 3] rfl rfl))) (hm := hm) (hf := hf) (hki := hki) (hg := hg) (hgv := hgw) (hk3 := hk9) (hob := hob)) (cwV 2 hts gX9_corrections_X9_rank rfl rfl rfl (by decide +kernel) ⟨Nat.le_of_ble_eq_true rfl, Nat.le_of_ble_eq_true rfl⟩) ⟨qWz_blind, (va_recv hK hR (ci := 8) (q0 := 0) rfl rfl), (qWz_of (show va_P D vwCl [(xo, .inr (8, [.ref gg, .ref tr, .ref ti, .ref s2, .ref s3, .ref n2])), (gg, .inr (1, [.ref gr])), (gr, .inr (2, [.ref ce])), (s2, .inr (4, [.ref a2, .int (nI m)])), (a2, .inl (cS2, 40, .inr (.inr (.inr (.inr fk))))), (w9_6, .inr (7, [.long (lN a), .int (nI (wl a)), .long (lN (al a))]))] _ from (va_P.app (hR.sub (ws' := [(xo, .inr (8, [.ref gg, .ref tr, .ref ti, .ref s2, .ref s3, .ref n2]))]) [0] rfl) (va_P.app (hR.sub (ws' := [(gg, .inr (1, [.ref gr]))]) [1] rfl) (va_P.app (hR.sub (ws' := [(gr, .inr (2, [.ref ce]))]) [2] rfl) (va_P.app (hR.sub (ws' := [(s2, .inr (4, [.ref a2, .int (nI m)]))]) [3] rfl) (va_P.app (hR.sub (ws' := [(a2, .inl (cS2, 40, .inr (.inr (.inr (.inr fk)))))]) [4] rfl) (hP.sub (ws' := [(w9_6, .inr (7, [.long (lN a), .int (nI (wl a)), .long (lN (al a))]))]) [3] rfl))))))) (va_P.app (hP.sub (ws' := [(s3, .inr (4, [.ref a3, .int z3])), (a3, .inl (cS3, 40, .inr (.inr (.inr (.inr fr))))), (ce, .inl (cG, 121, .inl fc))]) [0, 1, 2] rfl) (q_right hP)) (hK.sub (tys' := [(cS3, .object "FuzzyFens$Entry"), (cG, .int), (cS2, .object "FuzzyFens$Entry")]) [0, 1, 2] rfl) hNw (qZ_at hZ hS (fun q h => hF q h)))⟩ rfl rfl hl.1 rfl (lv_room (Nat.le_of_ble_eq_true rfl)) dX9_corrections_16 ⟨Nat.le_of_ble_eq_true rfl, Nat.le_of_ble_eq_true rfl⟩) hS (fun q _ h => hF q h) hF (fun u_16 t_15 H_13 locs_14 ht hvm hr_12 hB hz1 hk1 hS => ?_)
  obtain ⟨fr5, fc5, pt5⟩ := u_16
  dsimp only at hr_12 hB
  replace hB : va_P D vwCl ([(s3, .inr (4, [.ref a3, .int (nI (rkc wd oc ki a (kz x9) m))])), (a3, .inl (cS3, 40, .inr (.inr (.inr (.inr fr5))))), (ce, .inl (cG, 121, .inl fc5))] ++ (EW ea wa pf cn dp oc ic lf pt5 n ++ WW wa wd n)) H_13 := by rw [← ht]; exact hB
  obtain ⟨hP, hD⟩ := q_joinT (X := [(s3, .inr (4, [.ref a3, .int z3])), (a3, .inl (cS3, 40, .inr (.inr (.inr (.inr fr))))), (ce, .inl (cG, 121, .inl fc)), (w9_6, .inr (7, [.long (lN a), .int (nI (wl a)), .long (lN (al a))]))]) (T := (EW ea wa pf cn dp oc ic lf pt n ++ WW wa wd n)) (cx := [(s3, .inr (4, [.ref a3, .int z3])), (a3, .inl (cS3, 40, .inr (.inr (.inr (.inr fr))))), (ce, .inl (cG, 121, .inl fc))]) (cx' := [(s3, .inr (4, [.ref a3, .int (nI (rkc wd oc ki a (kz x9) m))])), (a3, .inl (cS3, 40, .inr (.inr (.inr (.inr fr5))))), (ce, .inl (cG, 121, .inl fc5))]) (T' := (EW ea wa pf cn dp oc ic lf pt5 n ++ WW wa wd n)) (X' := [(s3, .inr (4, [.ref a3, .int (nI (rkc wd oc ki a (kz x9) m))])), (a3, .inl (cS3, 40, .inr (.inr (.inr (.inr fr5))))), (ce, .inl (cG, 121, .inl fc5)), (w9_6, .inr (7, [.long (lN a), .int (nI (wl a)), .long (lN (al a))]))]) [0, 1, 2] hP hD rfl rfl (by simp only [List.map_append, EW_fst, WW_fst]) hk1 hB rfl
  have hR := q_ro hR0 hna hS
  obtain ⟨hrk0, hrk1⟩ := hr_12
  refine lv_aload_n hx hb dX9_corrections_19 rfl (lv_at hl 1 rfl) ?_
  refine va_get (D := D) (own := RX9) (ref := "FuzzyFens") (ci := 8) (v := .ref s3) (C := RX9) (T := TX9) (N := 6) hx hb hts iX9_corrections_X9 hown hK hR 0 rfl rfl 4 (by decide) (hts (.fieldLink RX9 37 "FuzzyFens" "ranked" "LFuzzyFens$Shelf;") (List.mem_of_getElem? (i := 1) rfl)) (fun _ h9 => h9) rfl dX9_corrections_20 ?_
  refine vp_callSi (W.runV (As := []) (rest := []) ⟨hx, hb, hml, hown, hts⟩ (c_X5_size (l := l) (D := D) (sh := s3) (ar := a3) (m := rkc wd oc ki a (kz x9) m) ) (cwV 0 hts gX9_corrections_X5_size rfl rfl rfl (by decide +kernel) ⟨Nat.le_of_ble_eq_true rfl, Nat.le_of_ble_eq_true rfl⟩) ⟨qP_blind, (va_recv hK hP (ci := 4) (q0 := 0) rfl rfl), (qP_of (hP.sub (ws' := [(s3, .inr (4, [.ref a3, .int (nI (rkc wd oc ki a (kz x9) m))]))]) [0] rfl) (hK.sub (tys' := []) [] rfl) hNw)⟩ rfl rfl hl.1 rfl (lv_room (Nat.le_of_ble_eq_true rfl)) dX9_corrections_23 ⟨Nat.le_of_ble_eq_true rfl, Nat.le_of_ble_eq_true rfl⟩) (fun r_17 hr_17 => ?_)
  subst hr_17
  refine vx_ret ?_
  refine W.widen (k := 2) (n := 12) (Nat.le_of_ble_eq_true rfl) (Nat.le_of_ble_eq_true rfl) ?_
  exact W.iret (v := nI (rkc wd oc ki a (kz x9) m)) hx hb hr (fun t9 ht hW => ⟨⟨nI (rkc wd oc ki a (kz x9) m), (fr5, fc5, pt5), rfl, ⟨rfl, ⟨hgw, hcw⟩⟩, by show va_P D vwCl _ t9.heap; rw [ht]; exact (va_P.app (va_P.sub (ws' := [(s3, .inr (4, [.ref a3, .int (nI (rkc wd oc ki a (kz x9) m))])), (a3, .inl (cS3, 40, .inr (.inr (.inr (.inr fr5))))), (ce, .inl (cG, 121, .inl fc5))]) hP [0, 1, 2] rfl) (q_right hP))⟩, hS.F ht⟩) hS.2.2 dX9_corrections_26

set_option maxRecDepth 20000 in
theorem iX9_correction_X9 : ∀ w ∈ wsX90, w ∈ wsX9_correction := by decide +kernel
set_option maxHeartbeats 4000000 in
set_option maxRecDepth 100000 in
/-- correction -/
theorem c_X9_correction (l : Launch) (D : va_G) (sz : Nat) (xo : Nat) (gg : Nat) (gr : Nat) (ce : Nat) (tr : Nat) (sh : Nat) (ar : Nat) (ti : Nat) (n1 : Nat) (l1 : Nat) (s2 : Nat) (a2 : Nat) (s3 : Nat) (a3 : Nat) (n2 : Nat) (l2 : Nat) (cS2 : ClassId) (fk : Nat → Option Nat) (m : Nat) (ki : Nat → Nat) (ea : Nat → Nat) (wa : Nat → Nat) (pf : Nat → Option Nat) (cn : Nat → Nat) (dp : Nat → Nat) (oc : Nat → Nat) (ic : Nat → Int32) (lf : Nat → Int32) (pt : Nat → Int32) (wd : Nat → Nat) (n : Nat) (cG : ClassId) (fc : Nat → Int32) (cS3 : ClassId) (fr : Nat → Option Nat) (z3 : Int32) (a : Nat) (x9 : Int32) (y9 : Int32) (hst : l.stackTraces = false) (hnd : (([s3, a3, ce] ++ (rg ea n ++ rg wa n)) ++ [xo, gg, gr, s2, a2]).Nodup) (ha : a < 2 ^ 64) (hm : m ≤ 40) (hf : ∀ j, j < m → fk j = some (ea (ki j))) (hki : ∀ j, j < m → ki j < n) (hg : ∀ k, k < n → gw (wd k)) (hob : ∀ k, k < n → oc k < 2 ^ 31) : vx_Met l yX9_correction wsX9_correction { frames := 7, cells := 3, slots := 18, locals := 141 } (va_Pc [.ref xo, .long (lN a), .int x9, .int y9] (qWx D sz ([(xo, .inr (8, [.ref gg, .ref tr, .ref ti, .ref s2, .ref s3, .ref n2])), (gg, .inr (1, [.ref gr])), (gr, .inr (2, [.ref ce])), (s2, .inr (4, [.ref a2, .int (nI m)])), (a2, .inl (cS2, 40, .inr (.inr (.inr (.inr fk)))))]) ([(s3, .inr (4, [.ref a3, .int z3])), (a3, .inl (cS3, 40, .inr (.inr (.inr (.inr fr))))), (ce, .inl (cG, 121, .inl fc))] ++ (EW ea wa pf cn dp oc ic lf pt n ++ WW wa wd n)) [(cS3, .object "FuzzyFens$Entry"), (cG, .int), (cS2, .object "FuzzyFens$Entry")])) (va_Ql (fun (rv : Int64) (uv : (Nat → Option Nat) × (Nat → Int32) × (Nat → Int32)) => rv = lN (wd (rko wd oc ki a (kz x9) m (kz y9))) ∧ (gw a ∧ 0 ≤ x9 ∧ x9 ≤ nI 3) ∧ 0 ≤ y9 ∧ y9 < nI (rkc wd oc ki a (kz x9) m)) (fun (uv : (Nat → Option Nat) × (Nat → Int32) × (Nat → Int32)) (tv : State) => va_P D vwCl ([(s3, .inr (4, [.ref a3, .int (nI (rkc wd oc ki a (kz x9) m))])), (a3, .inl (cS3, 40, .inr (.inr (.inr (.inr uv.1))))), (ce, .inl (cG, 121, .inl uv.2.1))] ++ (EW ea wa pf cn dp oc ic lf uv.2.2 n ++ WW wa wd n)) tv.heap) (va_A ([(s3, .inr (4, [.ref a3, .int z3])), (a3, .inl (cS3, 40, .inr (.inr (.inr (.inr fr))))), (ce, .inl (cG, 121, .inl fc))] ++ (EW ea wa pf cn dp oc ic lf pt n ++ WW wa wd n)) sz)) (vx_X (fun _ : (Int32) × (Nat → Option Nat) × (Nat → Int32) × (Nat → Int32) => True) (fun (E9 : String) (uv : (Int32) × (Nat → Option Nat) × (Nat → Int32) × (Nat → Int32)) (tv : State) => ((E9 = q_IA ∧ (¬ (gw a ∧ 0 ≤ x9 ∧ x9 ≤ nI 3))) ∨ (E9 = q_IO ∧ ((gw a ∧ 0 ≤ x9 ∧ x9 ≤ nI 3) ∧ ¬ (0 ≤ y9 ∧ y9 < nI (rkc wd oc ki a (kz x9) m))))) ∧ va_P D vwCl ([(s3, .inr (4, [.ref a3, .int uv.1])), (a3, .inl (cS3, 40, .inr (.inr (.inr (.inr uv.2.1))))), (ce, .inl (cG, 121, .inl uv.2.2.1))] ++ (EW ea wa pf cn dp oc ic lf uv.2.2.2 n ++ WW wa wd n)) tv.heap) (va_A ([(s3, .inr (4, [.ref a3, .int z3])), (a3, .inl (cS3, 40, .inr (.inr (.inr (.inr fr))))), (ce, .inl (cG, 121, .inl fc))] ++ (EW ea wa pf cn dp oc ic lf pt n ++ WW wa wd n)) sz)) 3 18 (va_A ([(s3, .inr (4, [.ref a3, .int z3])), (a3, .inl (cS3, 40, .inr (.inr (.inr (.inr fr))))), (ce, .inl (cG, 121, .inl fc))] ++ (EW ea wa pf cn dp oc ic lf pt n ++ WW wa wd n)) sz) := by
  refine vx_ofW (cc := cX9_correction) (maxL := 6) (ret := (some .long)) (by decide) rfl ?_
  intro pM eM s mi9 argsM belowM methM cM sM B hml htab hv
  obtain ⟨rfl, hsz, hR0, hP, hK, hNw, hZ, hXt⟩ := hv
  have hx := B.exec
  have hb := B.bytes
  have hr := B.returns
  have hts := atoms_spec (ws := wsX9_correction) B.pre
  have hown : s.vm.findClass RX9 = some mi9.cls := findClass_of_methodNamed B.named
  have hlocks := B.notSynchronized
  subst hsz
  have hna := q_na (RW := ([(s3, .inr (4, [.ref a3, .int z3])), (a3, .inl (cS3, 40, .inr (.inr (.inr (.inr fr))))), (ce, .inl (cG, 121, .inl fc))] ++ (EW ea wa pf cn dp oc ic lf pt n ++ WW wa wd n))) (RO := [(xo, .inr (8, [.ref gg, .ref tr, .ref ti, .ref s2, .ref s3, .ref n2])), (gg, .inr (1, [.ref gr])), (gr, .inr (2, [.ref ce])), (s2, .inr (4, [.ref a2, .int (nI m)])), (a2, .inl (cS2, 40, .inr (.inr (.inr (.inr fk)))))]) hnd (by rw [List.map_append, List.map_append, EW_fst, WW_fst]; rfl) rfl hR0
  have hD := q_D (RW := ([(s3, .inr (4, [.ref a3, .int z3])), (a3, .inl (cS3, 40, .inr (.inr (.inr (.inr fr))))), (ce, .inl (cG, 121, .inl fc))] ++ (EW ea wa pf cn dp oc ic lf pt n ++ WW wa wd n))) (sz := s.heap.size) hnd (by rw [List.map_append, List.map_append, EW_fst, WW_fst]; rfl)
  have hnR : (([(xo, .inr (8, [.ref gg, .ref tr, .ref ti, .ref s2, .ref s3, .ref n2])), (gg, .inr (1, [.ref gr])), (gr, .inr (2, [.ref ce])), (s2, .inr (4, [.ref a2, .int (nI m)])), (a2, .inl (cS2, 40, .inr (.inr (.inr (.inr fk)))))] : va_W).map (·.1)).Nodup := by rw [show ([(xo, .inr (8, [.ref gg, .ref tr, .ref ti, .ref s2, .ref s3, .ref n2])), (gg, .inr (1, [.ref gr])), (gr, .inr (2, [.ref ce])), (s2, .inr (4, [.ref a2, .int (nI m)])), (a2, .inl (cS2, 40, .inr (.inr (.inr (.inr fk)))))] : va_W).map (·.1) = [xo, gg, gr, s2, a2] from rfl]; exact (List.nodup_append.mp hnd).2.1
  have hA : ∀ q : Nat, s.heap.size ≤ q → va_A ([(s3, .inr (4, [.ref a3, .int z3])), (a3, .inl (cS3, 40, .inr (.inr (.inr (.inr fr))))), (ce, .inl (cG, 121, .inl fc))] ++ (EW ea wa pf cn dp oc ic lf pt n ++ WW wa wd n)) s.heap.size q := fun q h => Or.inr h
  generalize hAe : va_A ([(s3, .inr (4, [.ref a3, .int z3])), (a3, .inl (cS3, 40, .inr (.inr (.inr (.inr fr))))), (ce, .inl (cG, 121, .inl fc))] ++ (EW ea wa pf cn dp oc ic lf pt n ++ WW wa wd n)) s.heap.size = A at hna hD hA hZ ⊢
  have hS : va_S A s.heap s.heap [] := va_S.rf
  have hR := hR0
  have hP : va_P D vwCl ([(s3, .inr (4, [.ref a3, .int z3])), (a3, .inl (cS3, 40, .inr (.inr (.inr (.inr fr))))), (ce, .inl (cG, 121, .inl fc))] ++ (EW ea wa pf cn dp oc ic lf pt n ++ WW wa wd n)) s.heap := hP
  obtain ⟨⟨tR, hZR, hTR⟩, ⟨tP, hZP, hTP⟩, hUS, hSS⟩ := id hZ
  have hl := lv_entry ([.ref xo, .long (lN a), .int x9, .int y9]) (n := 6) (Nat.le_of_ble_eq_true rfl)
  rw [lg_entry_eq]
  generalize (lg_sl ([.ref xo, .long (lN a), .int x9, .int y9]) ++ List.replicate (6 - (lg_sl ([.ref xo, .long (lN a), .int x9, .int y9])).length) Slot.unset).toArray = ls at hl ⊢
  have hl : lv_has ls 6 [(0, .ref xo), (1, .long (lN a)), (3, .int x9), (4, .int y9)] := hl
  refine lv_lload_n hx hb dX9_correction_0 rfl (lv_at hl 1 rfl) ?_
  have hF := va_free (wc := []) hD hS hA [] rfl
  refine vx_callq (vx_runS (As := [.long (lN a)]) (rest := []) ⟨hx, hb, hml, hown, hts⟩ (c_X9_wordOf (l := l) (D := D) (a := a) (sz := s.heap.size) (hnd := (q_nds (q_ndl (q_ndsw (q_ndg (l1 := [s3, a3, ce] ++ (rg ea n ++ rg wa n)) (l2 := [xo, gg, gr, s2, a2]) hD hnR hna (by rw [List.map_append, List.map_append, EW_fst, WW_fst]; rfl) rfl))) [] rfl rfl)) (hst := hst) (ha := ha)) (va_cwS 1 hts gX9_correction_X9_wordOf rfl rfl rfl (by decide +kernel) ⟨Nat.le_of_ble_eq_true rfl, Nat.le_of_ble_eq_true rfl⟩) ⟨qWx_blind, (qWx_of (q_Pof (fun _ h => absurd h List.not_mem_nil)) (q_Pof (fun _ h => absurd h List.not_mem_nil)) (hK.sub (tys' := []) [] rfl) hNw (qZ_at hZ hS (fun q h => hF q h)) hXt)⟩ rfl rfl hl.1 rfl (lv_room (Nat.le_of_ble_eq_true rfl)) dX9_correction_1 ⟨Nat.le_of_ble_eq_true rfl, Nat.le_of_ble_eq_true rfl⟩) hS (fun q _ h => hF q h) hF (fun q _ h => hF q h) (fun E9 ce9 q9 u9 t9 H9 locs9 ht9 hvm9 hpx9 hBX9 hz9 hk9 hS9 hc9 hv9 hcl9 => ?_) (fun r_1 u_5 t_4 H_2 locs_3 ht hvm hr_1 hB hz1 hk1 hS => ?_)
  · obtain ⟨hE9, hW9⟩ := hBX9
    exact vx_out (fun x9 h9 => (htab x9 h9).elim) hlocks hc9 hv9 hcl9 (fun t8 ht8 hvm8 => ⟨(z3, fr, fc, pt), trivial, ⟨Or.inl ⟨hE9.1, fun h9 => hE9.2 h9.1⟩, by show va_P D vwCl _ t8.heap; rw [ht8]; exact (q_keepP hP hk9 q_A0)⟩, ⟨by rw [ht8]; exact hS9.1, fun q8 a8 b8 => by rw [ht8]; exact hS9.2.1 q8 a8 b8⟩⟩) hS9.2.2 (Nat.le_of_ble_eq_true rfl) (Nat.le_of_ble_eq_true rfl)
  skip
  obtain ⟨w9_6, rfl⟩ : ∃ z, z = u_5 := ⟨_, rfl⟩
  obtain ⟨hB1, hB2, hB3⟩ := hB
  replace hB1 : va_P D vwCl ([] ++ [(w9_6, .inr (7, [.long (lN a), .int (nI (wl a)), .long (lN (al a))]))]) H_2 := by rw [← ht]; exact hB1
  obtain ⟨hP, hD⟩ := q_joinN (wc := []) (w1 := []) (wn := [(w9_6, .inr (7, [.long (lN a), .int (nI (wl a)), .long (lN (al a))]))]) (ws' := [(s3, .inr (4, [.ref a3, .int z3])), (a3, .inl (cS3, 40, .inr (.inr (.inr (.inr fr))))), (ce, .inl (cG, 121, .inl fc))] ++ (EW ea wa pf cn dp oc ic lf pt n ++ WW wa wd n)) [] hP hD rfl rfl hk1 hF hB1 hB2 rfl
  have hK : va_K D vwCl [(cS3, .object "FuzzyFens$Entry"), (cG, .int), (cS2, .object "FuzzyFens$Entry")] s := hK.app (va_K.moved hvm.symm hB3)
  have hP : va_P D vwCl ([(s3, .inr (4, [.ref a3, .int z3])), (a3, .inl (cS3, 40, .inr (.inr (.inr (.inr fr))))), (ce, .inl (cG, 121, .inl fc)), (w9_6, .inr (7, [.long (lN a), .int (nI (wl a)), .long (lN (al a))]))] ++ (EW ea wa pf cn dp oc ic lf pt n ++ WW wa wd n)) H_2 := q_Pperm (q_mv (X := [(s3, .inr (4, [.ref a3, .int z3])), (a3, .inl (cS3, 40, .inr (.inr (.inr (.inr fr))))), (ce, .inl (cG, 121, .inl fc))]) (T := (EW ea wa pf cn dp oc ic lf pt n ++ WW wa wd n)) (Y := [(w9_6, .inr (7, [.long (lN a), .int (nI (wl a)), .long (lN (al a))]))])) hP
  have hD : va_D A ([(s3, .inr (4, [.ref a3, .int z3])), (a3, .inl (cS3, 40, .inr (.inr (.inr (.inr fr))))), (ce, .inl (cG, 121, .inl fc)), (w9_6, .inr (7, [.long (lN a), .int (nI (wl a)), .long (lN (al a))]))] ++ (EW ea wa pf cn dp oc ic lf pt n ++ WW wa wd n)) := q_Dperm (q_mv (X := [(s3, .inr (4, [.ref a3, .int z3])), (a3, .inl (cS3, 40, .inr (.inr (.inr (.inr fr))))), (ce, .inl (cG, 121, .inl fc))]) (T := (EW ea wa pf cn dp oc ic lf pt n ++ WW wa wd n)) (Y := [(w9_6, .inr (7, [.long (lN a), .int (nI (wl a)), .long (lN (al a))]))])) hD
  have hR := q_ro hR0 hna hS
  obtain ⟨rfl, hgw⟩ := hr_1
  refine q_cvv (show va_rf (some w9_6) = .ref w9_6 from rfl) ?_
  refine lv_astore (lv' := [(5, .ref w9_6), (0, .ref xo), (1, .long (lN a)), (3, .int x9), (4, .int y9)]) hx hb dX9_correction_4 hl (by decide) rfl (fun ls hl => ?_)
  refine lv_iload_n hx hb dX9_correction_6 rfl (lv_at hl 3 rfl) ?_
  refine lv_iconst (v := nI 0) hx hb dX9_correction_7 (by decide) ?_
  refine lv_iconst (v := nI 3) hx hb dX9_correction_8 (by decide) ?_
  have hF := va_free (wc := []) hD hS hA [] rfl
  refine vx_callv (vx_runS (As := [.int x9, .int (nI 0), .int (nI 3)]) (rest := []) ⟨hx, hb, hml, hown, hts⟩ (c_X9_checkWithin (l := l) (D := D) (x9 := x9) (lo := 0) (hi := 3) (sz := H_2.size) (hnd := (q_nds (q_ndl (q_ndsw (q_ndg (l1 := [s3, a3, ce, w9_6] ++ (rg ea n ++ rg wa n)) (l2 := [xo, gg, gr, s2, a2]) hD hnR hna (by rw [List.map_append, List.map_append, EW_fst, WW_fst]; rfl) rfl))) [] rfl rfl)) (hst := hst) (hlo := by omega) (hhi := by omega)) (va_cwS 3 hts gX9_correction_X9_checkWithin rfl rfl rfl (by decide +kernel) ⟨Nat.le_of_ble_eq_true rfl, Nat.le_of_ble_eq_true rfl⟩) ⟨qWx_blind, (qWx_of (q_Pof (fun _ h => absurd h List.not_mem_nil)) (q_Pof (fun _ h => absurd h List.not_mem_nil)) (hK.sub (tys' := []) [] rfl) hNw (qZ_at hZ hS (fun q h => hF q h)) hXt)⟩ rfl rfl hl.1 rfl (lv_room (Nat.le_of_ble_eq_true rfl)) dX9_correction_9 ⟨Nat.le_of_ble_eq_true rfl, Nat.le_of_ble_eq_true rfl⟩) hS (fun q _ h => hF q h) hF (fun q _ h => hF q h) (fun E9 ce9 q9 u9 t9 H9 locs9 ht9 hvm9 hpx9 hBX9 hz9 hk9 hS9 hc9 hv9 hcl9 => ?_) (fun u_11 t_10 H_8 locs_9 ht hvm hr_7 hB hz1 hk1 hS => ?_)
  · obtain ⟨hE9, hW9⟩ := hBX9
    exact vx_out (fun x9 h9 => (htab x9 h9).elim) hlocks hc9 hv9 hcl9 (fun t8 ht8 hvm8 => ⟨(z3, fr, fc, pt), trivial, ⟨Or.inl ⟨hE9.1, fun h9 => hE9.2 h9.2⟩, by show va_P D vwCl _ t8.heap; rw [ht8]; exact (va_P.app (va_P.sub (ws' := [(s3, .inr (4, [.ref a3, .int z3])), (a3, .inl (cS3, 40, .inr (.inr (.inr (.inr fr))))), (ce, .inl (cG, 121, .inl fc))]) (q_keepP hP hk9 q_A0) [0, 1, 2] rfl) (q_right (q_keepP hP hk9 q_A0)))⟩, ⟨by rw [ht8]; exact hS9.1, fun q8 a8 b8 => by rw [ht8]; exact hS9.2.1 q8 a8 b8⟩⟩) hS9.2.2 (Nat.le_of_ble_eq_true rfl) (Nat.le_of_ble_eq_true rfl)
  skip
  replace hB : va_P D vwCl [] H_8 := by rw [← ht]; exact hB
  obtain ⟨hP, hD⟩ := q_join (wc := []) (w1 := []) (ws' := [(s3, .inr (4, [.ref a3, .int z3])), (a3, .inl (cS3, 40, .inr (.inr (.inr (.inr fr))))), (ce, .inl (cG, 121, .inl fc)), (w9_6, .inr (7, [.long (lN a), .int (nI (wl a)), .long (lN (al a))]))] ++ (EW ea wa pf cn dp oc ic lf pt n ++ WW wa wd n)) [] hP hD rfl rfl hk1 hB rfl
  have hR := q_ro hR0 hna hS
  have hcw := hr_7
  have hk9 := kz_le (m := 3) (by decide) hcw.1 hcw.2
  have hl : lv_has ls 6 [(5, .ref w9_6), (0, .ref xo), (1, .long (lN a)), (3, .int (nI (kz x9))), (4, .int y9)] := (congrArg (fun v9 => lv_has ls 6 [(5, .ref w9_6), (0, .ref xo), (1, .long (lN a)), (3, .int v9), (4, .int y9)]) (kz_of hcw.1)).mp hl
  refine lv_aload_n hx hb dX9_correction_12 rfl (lv_at hl 1 rfl) ?_
  refine lv_aload hx hb dX9_correction_13 (lv_at hl 0 rfl) ?_
  refine lv_iload_n hx hb dX9_correction_15 rfl (lv_at hl 3 rfl) ?_
  have hF := q_freeT (X := [(s3, .inr (4, [.ref a3, .int z3])), (a3, .inl (cS3, 40, .inr (.inr (.inr (.inr fr))))), (ce, .inl (cG, 121, .inl fc)), (w9_6, .inr (7, [.long (lN a), .int (nI (wl a)), .long (lN (al a))]))]) (T := (EW ea wa pf cn dp oc ic lf pt n ++ WW wa wd n)) (cx := [(s3, .inr (4, [.ref a3, .int z3])), (a3, .inl (cS3, 40, .inr (.inr (.inr (.inr fr))))), (ce, .inl (cG, 121, .inl fc))]) hD hS hA [0, 1, 2] rfl
  refine va_callv (va_runV (As := [.ref w9_6, .int (nI (kz x9))]) (rest := []) ⟨hx, hb, hml, hown, hts⟩ (c_X9_rank (l := l) (D := D) (xo := xo) (gg := gg) (gr := gr) (ce := ce) (tr := tr) (sh := sh) (ar := ar) (ti := ti) (n1 := n1) (l1 := l1) (s2 := s2) (a2 := a2) (s3 := s3) (a3 := a3) (n2 := n2) (l2 := l2) (cS2 := cS2) (fk := fk) (m := m) (ki := ki) (ea := ea) (wa := wa) (pf := pf) (cn := cn) (dp := dp) (oc := oc) (ic := ic) (lf := lf) (pt := pt) (wd := wd) (n := n) (cG := cG) (fc := fc) (cS3 := cS3) (fr := fr) (z3 := z3) (w0 := w9_6) (v := a) (k := kz x9) (sz := H_8.size) (hnd := (q_ndws (q_ndt (a' := [s3, a3, ce]) (b' := [xo, gg, gr, s2, a2, w9_6]) (q_ndsw (q_ndg (l1 := [s3, a3, ce, w9_6] ++ (rg ea n ++ rg wa n)) (l2 := [xo, gg, gr, s2, a2]) hD hnR hna (by rw [List.map_append, List.map_append, EW_fst, WW_fst]; rfl) rfl)) [0, 1, 2, 4, 5, 6, 7, 8, 3] rfl rfl))) (hm := hm) (hf := hf) (hki := hki) (hg := hg) (hgv := hgw) (hk3 := hk9) (hob := hob)) (cwV 2 hts gX9_correction_X9_rank rfl rfl rfl (by decide +kernel) ⟨Nat.le_of_ble_eq_true rfl, Nat.le_of_ble_eq_true rfl⟩) ⟨qWz_blind, (va_recv hK hR (ci := 8) (q0 := 0) rfl rfl), (qWz_of (show va_P D vwCl [(xo, .inr (8, [.ref gg, .ref tr, .ref ti, .ref s2, .ref s3, .ref n2])), (gg, .inr (1, [.ref gr])), (gr, .inr (2, [.ref ce])), (s2, .inr (4, [.ref a2, .int (nI m)])), (a2, .inl (cS2, 40, .inr (.inr (.inr (.inr fk))))), (w9_6, .inr (7, [.long (lN a), .int (nI (wl a)), .long (lN (al a))]))] _ from (va_P.app (hR.sub (ws' := [(xo, .inr (8, [.ref gg, .ref tr, .ref ti, .ref s2, .ref s3, .ref n2]))]) [0] rfl) (va_P.app (hR.sub (ws' := [(gg, .inr (1, [.ref gr]))]) [1] rfl) (va_P.app (hR.sub (ws' := [(gr, .inr (2, [.ref ce]))]) [2] rfl) (va_P.app (hR.sub (ws' := [(s2, .inr (4, [.ref a2, .int (nI m)]))]) [3] rfl) (va_P.app (hR.sub (ws' := [(a2, .inl (cS2, 40, .inr (.inr (.inr (.inr fk)))))]) [4] rfl) (hP.sub (ws' := [(w9_6, .inr (7, [.long (lN a), .int (nI (wl a)), .long (lN (al a))]))]) [3] rfl))))))) (va_P.app (hP.sub (ws' := [(s3, .inr (4, [.ref a3, .int z3])), (a3, .inl (cS3, 40, .inr (.inr (.inr (.inr fr))))), (ce, .inl (cG, 121, .inl fc))]) [0, 1, 2] rfl) (q_right hP)) (hK.sub (tys' := [(cS3, .object "FuzzyFens$Entry"), (cG, .int), (cS2, .object "FuzzyFens$Entry")]) [0, 1, 2] rfl) hNw (qZ_at hZ hS (fun q h => hF q h)))⟩ rfl rfl hl.1 rfl (lv_room (Nat.le_of_ble_eq_true rfl)) dX9_correction_16 ⟨Nat.le_of_ble_eq_true rfl, Nat.le_of_ble_eq_true rfl⟩) hS (fun q _ h => hF q h) hF (fun u_16 t_15 H_13 locs_14 ht hvm hr_12 hB hz1 hk1 hS => ?_)
  obtain ⟨fr5, fc5, pt5⟩ := u_16
  dsimp only at hr_12 hB
  replace hB : va_P D vwCl ([(s3, .inr (4, [.ref a3, .int (nI (rkc wd oc ki a (kz x9) m))])), (a3, .inl (cS3, 40, .inr (.inr (.inr (.inr fr5))))), (ce, .inl (cG, 121, .inl fc5))] ++ (EW ea wa pf cn dp oc ic lf pt5 n ++ WW wa wd n)) H_13 := by rw [← ht]; exact hB
  obtain ⟨hP, hD⟩ := q_joinT (X := [(s3, .inr (4, [.ref a3, .int z3])), (a3, .inl (cS3, 40, .inr (.inr (.inr (.inr fr))))), (ce, .inl (cG, 121, .inl fc)), (w9_6, .inr (7, [.long (lN a), .int (nI (wl a)), .long (lN (al a))]))]) (T := (EW ea wa pf cn dp oc ic lf pt n ++ WW wa wd n)) (cx := [(s3, .inr (4, [.ref a3, .int z3])), (a3, .inl (cS3, 40, .inr (.inr (.inr (.inr fr))))), (ce, .inl (cG, 121, .inl fc))]) (cx' := [(s3, .inr (4, [.ref a3, .int (nI (rkc wd oc ki a (kz x9) m))])), (a3, .inl (cS3, 40, .inr (.inr (.inr (.inr fr5))))), (ce, .inl (cG, 121, .inl fc5))]) (T' := (EW ea wa pf cn dp oc ic lf pt5 n ++ WW wa wd n)) (X' := [(s3, .inr (4, [.ref a3, .int (nI (rkc wd oc ki a (kz x9) m))])), (a3, .inl (cS3, 40, .inr (.inr (.inr (.inr fr5))))), (ce, .inl (cG, 121, .inl fc5)), (w9_6, .inr (7, [.long (lN a), .int (nI (wl a)), .long (lN (al a))]))]) [0, 1, 2] hP hD rfl rfl (by simp only [List.map_append, EW_fst, WW_fst]) hk1 hB rfl
  have hR := q_ro hR0 hna hS
  obtain ⟨hrk0, hrk1⟩ := hr_12
  refine lv_aload_n hx hb dX9_correction_19 rfl (lv_at hl 1 rfl) ?_
  refine va_get (D := D) (own := RX9) (ref := "FuzzyFens") (ci := 8) (v := .ref s3) (C := RX9) (T := TX9) (N := 6) hx hb hts iX9_correction_X9 hown hK hR 0 rfl rfl 4 (by decide) (hts (.fieldLink RX9 37 "FuzzyFens" "ranked" "LFuzzyFens$Shelf;") (List.mem_of_getElem? (i := 1) rfl)) (fun _ h9 => h9) rfl dX9_correction_20 ?_
  refine lv_iload hx hb dX9_correction_23 (lv_at hl 4 rfl) ?_
  have hF := va_free (wc := []) hD hS hA [] rfl
  refine vx_calll (vx_runS (As := [.ref s3, .int y9]) (rest := []) ⟨hx, hb, hml, hown, hts⟩ (c_X9_numberAt (l := l) (D := D) (s2 := s3) (a2 := a3) (cS2 := cS3) (fk := fr5) (m := rkc wd oc ki a (kz x9) m) (ki := (rko wd oc ki a (kz x9) m)) (ea := ea) (wa := wa) (pf := pf) (cn := cn) (dp := dp) (oc := oc) (ic := ic) (lf := lf) (pt := pt5) (wd := wd) (n := n) (x9 := y9) (sz := H_13.size) (hnd := (q_ndt (q_ndsw (q_ndg (l1 := [s3, a3, ce, w9_6] ++ (rg ea n ++ rg wa n)) (l2 := [xo, gg, gr, s2, a2]) hD hnR hna (by rw [List.map_append, List.map_append, EW_fst, WW_fst]; rfl) rfl)) [0, 1] rfl rfl)) (hst := hst) (hm := by have := rkc_le wd oc ki a (kz x9) m; omega) (hf := hrk0) (hki := hrk1)) (va_cwS 2 hts gX9_correction_X9_numberAt rfl rfl rfl (by decide +kernel) ⟨Nat.le_of_ble_eq_true rfl, Nat.le_of_ble_eq_true rfl⟩) ⟨qWx_blind, (qWx_of (va_P.app (hP.sub (ws' := [(s3, .inr (4, [.ref a3, .int (nI (rkc wd oc ki a (kz x9) m))])), (a3, .inl (cS3, 40, .inr (.inr (.inr (.inr fr5)))))]) [0, 1] rfl) (q_right hP)) (q_Pof (fun _ h => absurd h List.not_mem_nil)) (hK.sub (tys' := [(cS3, .object "FuzzyFens$Entry")]) [0] rfl) hNw (qZ_at hZ hS (fun q h => hF q h)) hXt)⟩ rfl rfl hl.1 rfl (lv_room (Nat.le_of_ble_eq_true rfl)) dX9_correction_25 ⟨Nat.le_of_ble_eq_true rfl, Nat.le_of_ble_eq_true rfl⟩) hS (fun q _ h => hF q h) hF (fun q _ h => hF q h) (fun E9 ce9 q9 u9 t9 H9 locs9 ht9 hvm9 hpx9 hBX9 hz9 hk9 hS9 hc9 hv9 hcl9 => ?_) (fun r_17 u_21 t_20 H_18 locs_19 ht hvm hr_17 hB hz1 hk1 hS => ?_)
  · obtain ⟨hE9, hW9⟩ := hBX9
    exact vx_out (fun x9 h9 => (htab x9 h9).elim) hlocks hc9 hv9 hcl9 (fun t8 ht8 hvm8 => ⟨(nI (rkc wd oc ki a (kz x9) m), fr5, fc5, pt5), trivial, ⟨Or.inr ⟨hE9.1, ⟨hgw, hcw⟩, hE9.2⟩, by show va_P D vwCl _ t8.heap; rw [ht8]; exact (va_P.app (va_P.sub (ws' := [(s3, .inr (4, [.ref a3, .int (nI (rkc wd oc ki a (kz x9) m))])), (a3, .inl (cS3, 40, .inr (.inr (.inr (.inr fr5))))), (ce, .inl (cG, 121, .inl fc5))]) (q_keepP hP hk9 q_A0) [0, 1, 2] rfl) (q_right (q_keepP hP hk9 q_A0)))⟩, ⟨by rw [ht8]; exact hS9.1, fun q8 a8 b8 => by rw [ht8]; exact hS9.2.1 q8 a8 b8⟩⟩) hS9.2.2 (Nat.le_of_ble_eq_true rfl) (Nat.le_of_ble_eq_true rfl)
  skip
  replace hB : va_P D vwCl [] H_18 := by rw [← ht]; exact hB
  obtain ⟨hP, hD⟩ := q_join (wc := []) (w1 := []) (ws' := [(s3, .inr (4, [.ref a3, .int (nI (rkc wd oc ki a (kz x9) m))])), (a3, .inl (cS3, 40, .inr (.inr (.inr (.inr fr5))))), (ce, .inl (cG, 121, .inl fc5)), (w9_6, .inr (7, [.long (lN a), .int (nI (wl a)), .long (lN (al a))]))] ++ (EW ea wa pf cn dp oc ic lf pt5 n ++ WW wa wd n)) [] hP hD rfl rfl hk1 hB rfl
  have hR := q_ro hR0 hna hS
  obtain ⟨rfl, hrg⟩ := hr_17
  refine vx_ret ?_
  refine W.widen (k := 3) (n := 18) (Nat.le_of_ble_eq_true rfl) (Nat.le_of_ble_eq_true rfl) ?_
  exact W.lret (v := lN (wd ((rko wd oc ki a (kz x9) m) (kz y9)))) hx hb hr (fun t9 ht hW => ⟨⟨lN (wd ((rko wd oc ki a (kz x9) m) (kz y9))), (fr5, fc5, pt5), rfl, ⟨rfl, ⟨hgw, hcw⟩, hrg⟩, by show va_P D vwCl _ t9.heap; rw [ht]; exact (va_P.app (va_P.sub (ws' := [(s3, .inr (4, [.ref a3, .int (nI (rkc wd oc ki a (kz x9) m))])), (a3, .inl (cS3, 40, .inr (.inr (.inr (.inr fr5))))), (ce, .inl (cG, 121, .inl fc5))]) hP [0, 1, 2] rfl) (q_right hP))⟩, hS.F ht⟩) hS.2.2 dX9_correction_28
