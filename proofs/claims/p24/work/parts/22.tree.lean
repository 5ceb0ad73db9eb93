set_option maxRecDepth 20000 in
theorem iX6_size_X6 : ∀ w ∈ wsX60, w ∈ wsX6_size := by decide +kernel
set_option maxHeartbeats 4000000 in
set_option maxRecDepth 100000 in
/-- Tree.size -/
theorem c_X6_size (l : Launch) (D : va_G) (tr : Nat) (sh : Nat) (ar : Nat) (m : Nat)  : Met l yX6_size wsX6_size { frames := 1, cells := 0, slots := 0, locals := 20 } (va_Pc [.ref tr] (qP D ([(tr, .inr (5, [.ref sh])), (sh, .inr (4, [.ref ar, .int (nI m)]))]) [])) (vp_Si (fun rv : Int32 => rv = nI m)) 0 0 (fun _ => False) := by
  refine Met.ofW (cc := cX6_size) (maxL := 1) (ret := (some .int)) (by decide) rfl ?_
  intro pM eM s mi9 argsM belowM methM cM sM B hml hv
  obtain ⟨rfl, hR, hK, hNw⟩ := hv
  have hx := B.exec
  have hb := B.bytes
  have hr := B.returns
  have hts := atoms_spec (ws := wsX6_size) B.pre
  have hown : s.vm.findClass RX6 = some mi9.cls := findClass_of_methodNamed B.named
  have hlocks := B.notSynchronized
  have hS : va_S (fun _ => False) s.heap s.heap [] := va_S.rf
  have hR : va_P D vwCl ([(tr, .inr (5, [.ref sh])), (sh, .inr (4, [.ref ar, .int (nI m)]))]) s.heap := hR
  have hl := lv_entry ([.ref tr]) (n := 1) (Nat.le_of_ble_eq_true rfl)
  rw [lg_entry_eq]
  generalize (lg_sl ([.ref tr]) ++ List.replicate (1 - (lg_sl ([.ref tr])).length) Slot.unset).toArray = ls at hl ⊢
  have hl : lv_has ls 1 [(0, .ref tr)] := hl
  refine lv_aload_n hx hb dX6_size_0 rfl (lv_at hl 0 rfl) ?_
  refine va_get (D := D) (own := RX6) (ref := "FuzzyFens$Tree") (ci := 5) (v := .ref sh) (C := RX6) (T := TX6) (N := 1) hx hb hts iX6_size_X6 hown hK hR 0 rfl rfl 0 (by decide) (hts (.fieldLink RX6 12 "FuzzyFens$Tree" "nodes" "LFuzzyFens$Shelf;") (List.mem_of_getElem? (i := 1) rfl)) (fun _ h9 => h9) rfl dX6_size_1 ?_
  refine vp_callSi (W.runV (As := []) (rest := []) ⟨hx, hb, hml, hown, hts⟩ (c_X5_size (l := l) (D := D) (sh := sh) (ar := ar) (m := m) ) (cwV 0 hts gX6_size_X5_size rfl rfl rfl (by decide +kernel) ⟨Nat.le_of_ble_eq_true rfl, Nat.le_of_ble_eq_true rfl⟩) ⟨qP_blind, (va_recv hK hR (ci := 4) (q0 := 1) rfl rfl), (qP_of (hR.sub (ws' := [(sh, .inr (4, [.ref ar, .int (nI m)]))]) [1] rfl) (hK.sub (tys' := []) [] rfl) hNw)⟩ rfl rfl hl.1 rfl (lv_room (Nat.le_of_ble_eq_true rfl)) dX6_size_4 ⟨Nat.le_of_ble_eq_true rfl, Nat.le_of_ble_eq_true rfl⟩) (fun r_1 hr_1 => ?_)
  subst hr_1
  exact W.iret (v := nI m) hx hb hr (fun t9 ht _ => ⟨nI m, rfl, rfl, ht⟩) (fun _ h => absurd h List.not_mem_nil) dX6_size_7

set_option maxRecDepth 20000 in
theorem iX6_isFull_X6 : ∀ w ∈ wsX60, w ∈ wsX6_isFull := by decide +kernel
set_option maxHeartbeats 4000000 in
set_option maxRecDepth 100000 in
/-- Tree.isFull -/
theorem c_X6_isFull (l : Launch) (D : va_G) (tr : Nat) (sh : Nat) (ar : Nat) (m : Nat) (hm : m ≤ 40) : Met l yX6_isFull wsX6_isFull { frames := 1, cells := 0, slots := 0, locals := 20 } (va_Pc [.ref tr] (qP D ([(tr, .inr (5, [.ref sh])), (sh, .inr (4, [.ref ar, .int (nI m)]))]) [])) (vp_Si (fun rv : Int32 => rv = (if m = 40 then 1 else 0))) 0 0 (fun _ => False) := by
  refine Met.ofW (cc := cX6_isFull) (maxL := 1) (ret := (some .boolean)) (by decide) rfl ?_
  intro pM eM s mi9 argsM belowM methM cM sM B hml hv
  obtain ⟨rfl, hR, hK, hNw⟩ := hv
  have hx := B.exec
  have hb := B.bytes
  have hr := B.returns
  have hts := atoms_spec (ws := wsX6_isFull) B.pre
  have hown : s.vm.findClass RX6 = some mi9.cls := findClass_of_methodNamed B.named
  have hlocks := B.notSynchronized
  have hS : va_S (fun _ => False) s.heap s.heap [] := va_S.rf
  have hR : va_P D vwCl ([(tr, .inr (5, [.ref sh])), (sh, .inr (4, [.ref ar, .int (nI m)]))]) s.heap := hR
  have hl := lv_entry ([.ref tr]) (n := 1) (Nat.le_of_ble_eq_true rfl)
  rw [lg_entry_eq]
  generalize (lg_sl ([.ref tr]) ++ List.replicate (1 - (lg_sl ([.ref tr])).length) Slot.unset).toArray = ls at hl ⊢
  have hl : lv_has ls 1 [(0, .ref tr)] := hl
  refine lv_aload_n hx hb dX6_isFull_0 rfl (lv_at hl 0 rfl) ?_
  refine va_get (D := D) (own := RX6) (ref := "FuzzyFens$Tree") (ci := 5) (v := .ref sh) (C := RX6) (T := TX6) (N := 1) hx hb hts iX6_isFull_X6 hown hK hR 0 rfl rfl 0 (by decide) (hts (.fieldLink RX6 12 "FuzzyFens$Tree" "nodes" "LFuzzyFens$Shelf;") (List.mem_of_getElem? (i := 1) rfl)) (fun _ h9 => h9) rfl dX6_isFull_1 ?_
  refine vp_callSi (W.runV (As := []) (rest := []) ⟨hx, hb, hml, hown, hts⟩ (c_X5_size (l := l) (D := D) (sh := sh) (ar := ar) (m := m) ) (cwV 0 hts gX6_isFull_X5_size rfl rfl rfl (by decide +kernel) ⟨Nat.le_of_ble_eq_true rfl, Nat.le_of_ble_eq_true rfl⟩) ⟨qP_blind, (va_recv hK hR (ci := 4) (q0 := 1) rfl rfl), (qP_of (hR.sub (ws' := [(sh, .inr (4, [.ref ar, .int (nI m)]))]) [1] rfl) (hK.sub (tys' := []) [] rfl) hNw)⟩ rfl rfl hl.1 rfl (lv_room (Nat.le_of_ble_eq_true rfl)) dX6_isFull_4 ⟨Nat.le_of_ble_eq_true rfl, Nat.le_of_ble_eq_true rfl⟩) (fun r_1 hr_1 => ?_)
  subst hr_1
  refine lv_bipush (v := nI 40) hx hb dX6_isFull_7 (by decide) ?_
  refine q_icmp_lt (a := m) (b := 40) (tgt := 16) hx hb dX6_isFull_9 (by decide) (by omega) (by omega) (fun c_9 => ?_) (fun c_9 => ?_)
  · skip
    refine lv_iconst (v := nI 0) hx hb dX6_isFull_16 (by decide) ?_
    exact W.zret (v := nI 0) hx hb hr (by decide) (fun t9 ht _ => ⟨nI 0, rfl, (if_neg (by omega)).symm, ht⟩) (fun _ h => absurd h List.not_mem_nil) dX6_isFull_17
  · skip
    refine lv_iconst (v := nI 1) hx hb dX6_isFull_12 (by decide) ?_
    refine lv_goto (tgt := 17) hx hb dX6_isFull_13 (by decide) ?_
    exact W.zret (v := nI 1) hx hb hr (by decide) (fun t9 ht _ => ⟨nI 1, rfl, (if_pos (by omega)).symm, ht⟩) (fun _ h => absurd h List.not_mem_nil) dX6_isFull_17

set_option maxRecDepth 20000 in
theorem iX6_find_X0 : ∀ w ∈ wsX00, w ∈ wsX6_find := by decide +kernel
set_option maxRecDepth 20000 in
theorem iX6_find_X6 : ∀ w ∈ wsX60, w ∈ wsX6_find := by decide +kernel
set_option maxRecDepth 20000 in
theorem iX6_find_X8 : ∀ w ∈ wsX80, w ∈ wsX6_find := by decide +kernel
set_option maxHeartbeats 4000000 in
set_option maxRecDepth 100000 in
/-- Tree.find -/
theorem c_X6_find (l : Launch) (D : va_G) (tr : Nat) (sh : Nat) (ar : Nat) (cS : ClassId) (f : Nat → Option Nat) (w0 : Nat) (v : Nat) (ea : Nat → Nat) (wa : Nat → Nat) (pf : Nat → Option Nat) (cn : Nat → Nat) (dp : Nat → Nat) (oc : Nat → Nat) (ic : Nat → Int32) (lf : Nat → Int32) (pt : Nat → Int32) (wd : Nat → Nat) (n : Nat) (hv : v < 2 ^ 63) (hg : ∀ k, k < n → gw (wd k)) (hfe : ∀ j, j < n → f j = some (ea j)) (hn40 : n ≤ 40) : Met l yX6_find wsX6_find { frames := 1, cells := 0, slots := 0, locals := 21 } (va_Pc [.ref tr, .ref w0] (qP D ([(tr, .inr (5, [.ref sh])), (sh, .inr (4, [.ref ar, .int (nI n)])), (ar, .inl (cS, 40, .inr (.inr (.inr (.inr f))))), (w0, .inr (7, [.long (lN v), .int (nI (wl v)), .long (lN (al v))]))] ++ (EW ea wa pf cn dp oc ic lf pt n ++ WW wa wd n)) [(cS, .object "FuzzyFens$Entry")])) (va_Sq (fun rv : Option Nat => rv = (ffi (fun k => decide (wd k = v)) n).map ea)) 0 0 (fun _ => False) := by
  refine Met.ofW (cc := cX6_find) (maxL := 4) (ret := (some (.object "FuzzyFens$Entry"))) (by decide) rfl ?_
  intro pM eM s mi9 argsM belowM methM cM sM B hml hv
  obtain ⟨rfl, hR, hK, hNw⟩ := hv
  have hx := B.exec
  have hb := B.bytes
  have hr := B.returns
  have hts := atoms_spec (ws := wsX6_find) B.pre
  have hown : s.vm.findClass RX6 = some mi9.cls := findClass_of_methodNamed B.named
  have hlocks := B.notSynchronized
  have hS : va_S (fun _ => False) s.heap s.heap [] := va_S.rf
  have hR : va_P D vwCl ([(tr, .inr (5, [.ref sh])), (sh, .inr (4, [.ref ar, .int (nI n)])), (ar, .inl (cS, 40, .inr (.inr (.inr (.inr f))))), (w0, .inr (7, [.long (lN v), .int (nI (wl v)), .long (lN (al v))]))] ++ (EW ea wa pf cn dp oc ic lf pt n ++ WW wa wd n)) s.heap := hR
  have hl := lv_entry ([.ref tr, .ref w0]) (n := 4) (Nat.le_of_ble_eq_true rfl)
  rw [lg_entry_eq]
  generalize (lg_sl ([.ref tr, .ref w0]) ++ List.replicate (4 - (lg_sl ([.ref tr, .ref w0])).length) Slot.unset).toArray = ls at hl ⊢
  have hl : lv_has ls 4 [(0, .ref tr), (1, .ref w0)] := hl
  refine lv_iconst (v := nI 0) hx hb dX6_find_0 (by decide) ?_
  refine lv_istore_n (lv' := [(2, .int (nI 0)), (0, .ref tr), (1, .ref w0)]) hx hb dX6_find_1 rfl hl (by decide) rfl (fun ls hl => ?_)
  refine q_loop (fun (x : (Nat)) (Hc : Heap) (Lc : List Loc) (ls : Array Slot) => match x with | i => (i ≤ n) ∧ (ffi (fun k => decide (wd k = v)) i = none) ∧ s.heap = Hc ∧ [] = Lc ∧ lv_has ls 4 [(2, .int (nI i)), (0, .ref tr), (1, .ref w0)]) (fun (x : (Nat)) => match x with | i => n - i) 0 ⟨(by omega), rfl, rfl, rfl, (lv_sub hl [0, 1, 2] rfl)⟩ ?_
  clear hl
  rintro i Hc Lc ls hI ih_2
  obtain ⟨hi, hno, rfl, rfl, hl⟩ := hI
  refine lv_iload_n hx hb dX6_find_2 rfl (lv_at hl 0 rfl) ?_
  refine lv_aload_n hx hb dX6_find_3 rfl (lv_at hl 1 rfl) ?_
  refine va_get (D := D) (own := RX6) (ref := "FuzzyFens$Tree") (ci := 5) (v := .ref sh) (C := RX6) (T := TX6) (N := 1) hx hb hts iX6_find_X6 hown hK hR 0 rfl rfl 0 (by decide) (hts (.fieldLink RX6 12 "FuzzyFens$Tree" "nodes" "LFuzzyFens$Shelf;") (List.mem_of_getElem? (i := 1) rfl)) (fun _ h9 => h9) rfl dX6_find_4 ?_
  refine vp_callSi (W.runV (As := []) (rest := [.int (nI i)]) ⟨hx, hb, hml, hown, hts⟩ (c_X5_size (l := l) (D := D) (sh := sh) (ar := ar) (m := n) ) (cwV 0 hts gX6_find_X5_size rfl rfl rfl (by decide +kernel) ⟨Nat.le_of_ble_eq_true rfl, Nat.le_of_ble_eq_true rfl⟩) ⟨qP_blind, (va_recv hK hR (ci := 4) (q0 := 1) rfl rfl), (qP_of (hR.sub (ws' := [(sh, .inr (4, [.ref ar, .int (nI n)]))]) [1] rfl) (hK.sub (tys' := []) [] rfl) hNw)⟩ rfl rfl hl.1 rfl (lv_room (Nat.le_of_ble_eq_true rfl)) dX6_find_7 ⟨Nat.le_of_ble_eq_true rfl, Nat.le_of_ble_eq_true rfl⟩) (fun r_1 hr_1 => ?_)
  subst hr_1
  refine q_icmp_ge (a := i) (b := n) (tgt := 49) hx hb dX6_find_10 (by decide) (by omega) (by omega) (fun c_10 => ?_) (fun c_10 => ?_)
  · skip
    refine lv_null hx hb dX6_find_49 ?_
    exact W.aret (v := .null) hx hb hr (Or.inl ⟨_, rfl⟩) (Or.inl rfl) (fun t9 ht _ => ⟨none, rfl, (by rw [show n = i by omega, hno]; rfl), ht⟩) (fun _ h => absurd h List.not_mem_nil) dX6_find_50
  · skip
    refine lv_aload_n hx hb dX6_find_13 rfl (lv_at hl 1 rfl) ?_
    refine va_get (D := D) (own := RX6) (ref := "FuzzyFens$Tree") (ci := 5) (v := .ref sh) (C := RX6) (T := TX6) (N := 1) hx hb hts iX6_find_X6 hown hK hR 0 rfl rfl 0 (by decide) (hts (.fieldLink RX6 12 "FuzzyFens$Tree" "nodes" "LFuzzyFens$Shelf;") (List.mem_of_getElem? (i := 1) rfl)) (fun _ h9 => h9) rfl dX6_find_14 ?_
    refine lv_iload_n hx hb dX6_find_17 rfl (lv_at hl 0 rfl) ?_
    refine va_csq (W.runV (As := [.int (nI i)]) (rest := []) ⟨hx, hb, hml, hown, hts⟩ (c_X5_at (l := l) (D := D) (sh := sh) (ar := ar) (cS := cS) (f := f) (m := n) (i := i) (hi := by omega) (hm := hn40)) (cwV 1 hts gX6_find_X5_at rfl rfl rfl (by decide +kernel) ⟨Nat.le_of_ble_eq_true rfl, Nat.le_of_ble_eq_true rfl⟩) ⟨qP_blind, (va_recv hK hR (ci := 4) (q0 := 1) rfl rfl), (qP_of (hR.sub (ws' := [(sh, .inr (4, [.ref ar, .int (nI n)])), (ar, .inl (cS, 40, .inr (.inr (.inr (.inr f)))))]) [1, 2] rfl) (hK.sub (tys' := [(cS, .object "FuzzyFens$Entry")]) [0] rfl) hNw)⟩ rfl rfl hl.1 rfl (lv_room (Nat.le_of_ble_eq_true rfl)) dX6_find_18 ⟨Nat.le_of_ble_eq_true rfl, Nat.le_of_ble_eq_true rfl⟩) (fun r_2 hr_2 => ?_)
    subst hr_2
    have e9 : f i = some (ea i) := hfe _ (by omega)
    refine q_cvv (show va_rf (f i) = .ref (ea i) from (by rw [e9]; rfl)) ?_
    refine lv_astore_n (lv' := [(3, .ref (ea i)), (2, .int (nI i)), (0, .ref tr), (1, .ref w0)]) hx hb dX6_find_21 rfl hl (by decide) rfl (fun ls hl => ?_)
    refine lv_aload_n hx hb dX6_find_22 rfl (lv_at hl 0 rfl) ?_
    refine lv_ifnull hx hb dX6_find_23 ?_
    refine lv_aload_n hx hb dX6_find_26 rfl (lv_at hl 0 rfl) ?_
    refine va_getN (host := "FuzzyFens") (D := D) (own := RX6) (ref := "FuzzyFens$Entry") (ci := 0) (v := .ref (wa i)) (C := RX0) (T := TX0) (N := 8) hx hb hts iX6_find_X0 hown hK (E_at hR i (by omega)) 0 rfl rfl 0 (by decide) (va_Nw.use rfl (hNw.1 ("FuzzyFens$Tree", 26, "FuzzyFens$Entry", "word", "LFuzzyFens$Word;") (List.mem_of_getElem? (i := 7) rfl))) (fun _ h9 => h9) rfl dX6_find_27 ?_
    refine va_getN (host := "FuzzyFens") (D := D) (own := RX6) (ref := "FuzzyFens$Word") (ci := 7) (v := .long (lN (wd i))) (C := RX8) (T := TX8) (N := 3) hx hb hts iX6_find_X8 hown hK (W_at hR i (by omega)) 0 rfl rfl 0 (by decide) (va_Nw.use rfl (hNw.1 ("FuzzyFens$Tree", 32, "FuzzyFens$Word", "number", "J") (List.mem_of_getElem? (i := 0) rfl))) (fun _ h9 => h9) rfl dX6_find_30 ?_
    refine lv_aload_n hx hb dX6_find_33 rfl (lv_at hl 3 rfl) ?_
    refine va_getN (host := "FuzzyFens") (D := D) (own := RX6) (ref := "FuzzyFens$Word") (ci := 7) (v := .long (lN v)) (C := RX8) (T := TX8) (N := 3) hx hb hts iX6_find_X8 hown hK hR 3 rfl rfl 0 (by decide) (va_Nw.use rfl (hNw.1 ("FuzzyFens$Tree", 32, "FuzzyFens$Word", "number", "J") (List.mem_of_getElem? (i := 0) rfl))) (fun _ h9 => h9) rfl dX6_find_34 ?_
    refine W.lcmp hx hb dX6_find_37 ?_
    refine q_lc_ne (a := wd i) (b := v) (tgt := 43) hx hb dX6_find_38 (by decide) (by have := gw_lt (hg i (by omega)); omega) (by omega) (fun c_38 => ?_) (fun c_38 => ?_)
    · skip
      refine lv_iinc (v := nI (i + 1)) (lv' := [(2, .int (nI (i + 1))), (3, .ref (ea i)), (0, .ref tr), (1, .ref w0)]) hx hb dX6_find_43 hl (k := 1) rfl (q_inc (k := 1) (by omega)) (by decide) rfl (fun ls hl => ?_)
      refine lv_goto (tgt := 2) hx hb dX6_find_46 (by decide) ?_
      exact ih_2 (i + 1) _ _ _ ⟨(by omega), (ffi_s hno (by simpa using c_38)), rfl, rfl, (lv_sub hl [0, 2, 3] rfl)⟩ (by show n - (i + 1) < n - i; omega)
    · skip
      refine lv_aload_n hx hb dX6_find_41 rfl (lv_at hl 0 rfl) ?_
      exact W.aret (v := .ref (ea i)) hx hb hr (Or.inl ⟨_, rfl⟩) (Or.inr ⟨_, rfl⟩) (fun t9 ht _ => ⟨some (ea i), rfl, (by rw [ffi_hit hno (by simpa using c_38) (by omega)]; rfl), ht⟩) (fun _ h => absurd h List.not_mem_nil) dX6_find_42

set_option maxRecDepth 20000 in
theorem iX6_child_X0 : ∀ w ∈ wsX00, w ∈ wsX6_child := by decide +kernel
set_option maxRecDepth 20000 in
theorem iX6_child_X6 : ∀ w ∈ wsX60, w ∈ wsX6_child := by decide +kernel
set_option maxHeartbeats 4000000 in
set_option maxRecDepth 100000 in
/-- Tree.child -/
theorem c_X6_child (l : Launch) (D : va_G) (tr : Nat) (sh : Nat) (ar : Nat) (cS : ClassId) (f : Nat → Option Nat) (pi : Nat → Option Nat) (q : Nat) (num : Nat) (ea : Nat → Nat) (wa : Nat → Nat) (pf : Nat → Option Nat) (cn : Nat → Nat) (dp : Nat → Nat) (oc : Nat → Nat) (ic : Nat → Int32) (lf : Nat → Int32) (pt : Nat → Int32) (wd : Nat → Nat) (n : Nat) (hfe : ∀ j, j < n → f j = some (ea j)) (hn40 : n ≤ 40) (hq : q < n) (hnum : num < 2 ^ 31) (hcn : ∀ k, k < n → cn k < 2 ^ 31) (hpi : ∀ k, k < n → pf k = (pi k).map ea) (hpn : ∀ k i, k < n → pi k = some i → i < n) (hinj : ∀ i j, i < n → j < n → ea i = ea j → i = j) : Met l yX6_child wsX6_child { frames := 1, cells := 0, slots := 0, locals := 21 } (va_Pc [.ref tr, .ref (ea q), .int (nI num)] (qP D ([(tr, .inr (5, [.ref sh])), (sh, .inr (4, [.ref ar, .int (nI n)])), (ar, .inl (cS, 40, .inr (.inr (.inr (.inr f)))))] ++ (EW ea wa pf cn dp oc ic lf pt n ++ WW wa wd n)) [(cS, .object "FuzzyFens$Entry")])) (va_Sq (fun rv : Option Nat => rv = (ffi (fun k => decide (pi k = some q ∧ cn k = num)) n).map ea)) 0 0 (fun _ => False) := by
  refine Met.ofW (cc := cX6_child) (maxL := 5) (ret := (some (.object "FuzzyFens$Entry"))) (by decide) rfl ?_
  intro pM eM s mi9 argsM belowM methM cM sM B hml hv
  obtain ⟨rfl, hR, hK, hNw⟩ := hv
  have hx := B.exec
  have hb := B.bytes
  have hr := B.returns
  have hts := atoms_spec (ws := wsX6_child) B.pre
  have hown : s.vm.findClass RX6 = some mi9.cls := findClass_of_methodNamed B.named
  have hlocks := B.notSynchronized
  have hS : va_S (fun _ => False) s.heap s.heap [] := va_S.rf
  have hR : va_P D vwCl ([(tr, .inr (5, [.ref sh])), (sh, .inr (4, [.ref ar, .int (nI n)])), (ar, .inl (cS, 40, .inr (.inr (.inr (.inr f)))))] ++ (EW ea wa pf cn dp oc ic lf pt n ++ WW wa wd n)) s.heap := hR
  have hl := lv_entry ([.ref tr, .ref (ea q), .int (nI num)]) (n := 5) (Nat.le_of_ble_eq_true rfl)
  rw [lg_entry_eq]
  generalize (lg_sl ([.ref tr, .ref (ea q), .int (nI num)]) ++ List.replicate (5 - (lg_sl ([.ref tr, .ref (ea q), .int (nI num)])).length) Slot.unset).toArray = ls at hl ⊢
  have hl : lv_has ls 5 [(0, .ref tr), (1, .ref (ea q)), (2, .int (nI num))] := hl
  refine lv_iconst (v := nI 0) hx hb dX6_child_0 (by decide) ?_
  refine lv_istore_n (lv' := [(3, .int (nI 0)), (0, .ref tr), (1, .ref (ea q)), (2, .int (nI num))]) hx hb dX6_child_1 rfl hl (by decide) rfl (fun ls hl => ?_)
  refine q_loop (fun (x : (Nat)) (Hc : Heap) (Lc : List Loc) (ls : Array Slot) => match x with | i => (i ≤ n) ∧ (ffi (fun k => decide (pi k = some q ∧ cn k = num)) i = none) ∧ s.heap = Hc ∧ [] = Lc ∧ lv_has ls 5 [(3, .int (nI i)), (0, .ref tr), (1, .ref (ea q)), (2, .int (nI num))]) (fun (x : (Nat)) => match x with | i => n - i) 0 ⟨(by omega), rfl, rfl, rfl, (lv_sub hl [0, 1, 2, 3] rfl)⟩ ?_
  clear hl
  rintro i Hc Lc ls hI ih_2
  obtain ⟨hi, hno, rfl, rfl, hl⟩ := hI
  refine lv_iload_n hx hb dX6_child_2 rfl (lv_at hl 0 rfl) ?_
  refine lv_aload_n hx hb dX6_child_3 rfl (lv_at hl 1 rfl) ?_
  refine va_get (D := D) (own := RX6) (ref := "FuzzyFens$Tree") (ci := 5) (v := .ref sh) (C := RX6) (T := TX6) (N := 1) hx hb hts iX6_child_X6 hown hK hR 0 rfl rfl 0 (by decide) (hts (.fieldLink RX6 12 "FuzzyFens$Tree" "nodes" "LFuzzyFens$Shelf;") (List.mem_of_getElem? (i := 1) rfl)) (fun _ h9 => h9) rfl dX6_child_4 ?_
  refine vp_callSi (W.runV (As := []) (rest := [.int (nI i)]) ⟨hx, hb, hml, hown, hts⟩ (c_X5_size (l := l) (D := D) (sh := sh) (ar := ar) (m := n) ) (cwV 0 hts gX6_child_X5_size rfl rfl rfl (by decide +kernel) ⟨Nat.le_of_ble_eq_true rfl, Nat.le_of_ble_eq_true rfl⟩) ⟨qP_blind, (va_recv hK hR (ci := 4) (q0 := 1) rfl rfl), (qP_of (hR.sub (ws' := [(sh, .inr (4, [.ref ar, .int (nI n)]))]) [1] rfl) (hK.sub (tys' := []) [] rfl) hNw)⟩ rfl rfl hl.1 rfl (lv_room (Nat.le_of_ble_eq_true rfl)) dX6_child_7 ⟨Nat.le_of_ble_eq_true rfl, Nat.le_of_ble_eq_true rfl⟩) (fun r_1 hr_1 => ?_)
  subst hr_1
  refine q_icmp_ge (a := i) (b := n) (tgt := 55) hx hb dX6_child_10 (by decide) (by omega) (by omega) (fun c_10 => ?_) (fun c_10 => ?_)
  · skip
    refine lv_null hx hb dX6_child_55 ?_
    exact W.aret (v := .null) hx hb hr (Or.inl ⟨_, rfl⟩) (Or.inl rfl) (fun t9 ht _ => ⟨none, rfl, (by rw [show n = i by omega, hno]; rfl), ht⟩) (fun _ h => absurd h List.not_mem_nil) dX6_child_56
  · skip
    refine lv_aload_n hx hb dX6_child_13 rfl (lv_at hl 1 rfl) ?_
    refine va_get (D := D) (own := RX6) (ref := "FuzzyFens$Tree") (ci := 5) (v := .ref sh) (C := RX6) (T := TX6) (N := 1) hx hb hts iX6_child_X6 hown hK hR 0 rfl rfl 0 (by decide) (hts (.fieldLink RX6 12 "FuzzyFens$Tree" "nodes" "LFuzzyFens$Shelf;") (List.mem_of_getElem? (i := 1) rfl)) (fun _ h9 => h9) rfl dX6_child_14 ?_
    refine lv_iload_n hx hb dX6_child_17 rfl (lv_at hl 0 rfl) ?_
    refine va_csq (W.runV (As := [.int (nI i)]) (rest := []) ⟨hx, hb, hml, hown, hts⟩ (c_X5_at (l := l) (D := D) (sh := sh) (ar := ar) (cS := cS) (f := f) (m := n) (i := i) (hi := by omega) (hm := hn40)) (cwV 1 hts gX6_child_X5_at rfl rfl rfl (by decide +kernel) ⟨Nat.le_of_ble_eq_true rfl, Nat.le_of_ble_eq_true rfl⟩) ⟨qP_blind, (va_recv hK hR (ci := 4) (q0 := 1) rfl rfl), (qP_of (hR.sub (ws' := [(sh, .inr (4, [.ref ar, .int (nI n)])), (ar, .inl (cS, 40, .inr (.inr (.inr (.inr f)))))]) [1, 2] rfl) (hK.sub (tys' := [(cS, .object "FuzzyFens$Entry")]) [0] rfl) hNw)⟩ rfl rfl hl.1 rfl (lv_room (Nat.le_of_ble_eq_true rfl)) dX6_child_18 ⟨Nat.le_of_ble_eq_true rfl, Nat.le_of_ble_eq_true rfl⟩) (fun r_2 hr_2 => ?_)
    subst hr_2
    have e9 : f i = some (ea i) := hfe _ (by omega)
    refine q_cvv (show va_rf (f i) = .ref (ea i) from (by rw [e9]; rfl)) ?_
    refine lv_astore (lv' := [(4, .ref (ea i)), (3, .int (nI i)), (0, .ref tr), (1, .ref (ea q)), (2, .int (nI num))]) hx hb dX6_child_21 hl (by decide) rfl (fun ls hl => ?_)
    refine lv_aload hx hb dX6_child_23 (lv_at hl 0 rfl) ?_
    refine lv_ifnull hx hb dX6_child_25 ?_
    refine lv_aload hx hb dX6_child_28 (lv_at hl 0 rfl) ?_
    refine va_getN (host := "FuzzyFens") (D := D) (own := RX6) (ref := "FuzzyFens$Entry") (ci := 0) (v := va_rf (pf i)) (C := RX0) (T := TX0) (N := 8) hx hb hts iX6_child_X0 hown hK (E_at hR i (by omega)) 0 rfl rfl 1 (by decide) (va_Nw.use rfl (hNw.1 ("FuzzyFens$Tree", 67, "FuzzyFens$Entry", "parent", "LFuzzyFens$Entry;") (List.mem_of_getElem? (i := 9) rfl))) (fun _ h9 => h9) rfl dX6_child_30 ?_
    refine lv_aload_n hx hb dX6_child_33 rfl (lv_at hl 3 rfl) ?_
    refine lv_acmp_ne (rx := pf i) (ry := (some (ea q))) (tgt := 49) hx hb dX6_child_34 (by decide) (fun c_34 => ?_) (fun c_34 => ?_)
    · skip
      refine lv_iinc (v := nI (i + 1)) (lv' := [(3, .int (nI (i + 1))), (4, .ref (ea i)), (0, .ref tr), (1, .ref (ea q)), (2, .int (nI num))]) hx hb dX6_child_49 hl (k := 1) rfl (q_inc (k := 1) (by omega)) (by decide) rfl (fun ls hl => ?_)
      refine lv_goto (tgt := 2) hx hb dX6_child_52 (by decide) ?_
      exact ih_2 (i + 1) _ _ _ ⟨(by omega), (ffi_s hno (by simp only [decide_eq_true_eq]; exact fun h9 => c_34 (by rw [hpi i (by omega), h9.1]; rfl))), rfl, rfl, (lv_sub hl [0, 2, 3, 4] rfl)⟩ (by show n - (i + 1) < n - i; omega)
    · skip
      refine lv_aload hx hb dX6_child_37 (lv_at hl 0 rfl) ?_
      refine va_getN (host := "FuzzyFens") (D := D) (own := RX6) (ref := "FuzzyFens$Entry") (ci := 0) (v := .int (nI (cn i))) (C := RX0) (T := TX0) (N := 8) hx hb hts iX6_child_X0 hown hK (E_at hR i (by omega)) 0 rfl rfl 2 (by decide) (va_Nw.use rfl (hNw.1 ("FuzzyFens$Tree", 71, "FuzzyFens$Entry", "childNumber", "I") (List.mem_of_getElem? (i := 11) rfl))) (fun _ h9 => h9) rfl dX6_child_39 ?_
      refine lv_iload_n hx hb dX6_child_42 rfl (lv_at hl 4 rfl) ?_
      refine q_icmp_ne (a := cn i) (b := num) (tgt := 49) hx hb dX6_child_43 (by decide) (hcn i (by omega)) (by omega) (fun c_43 => ?_) (fun c_43 => ?_)
      · skip
        refine lv_iinc (v := nI (i + 1)) (lv' := [(3, .int (nI (i + 1))), (4, .ref (ea i)), (0, .ref tr), (1, .ref (ea q)), (2, .int (nI num))]) hx hb dX6_child_49 hl (k := 1) rfl (q_inc (k := 1) (by omega)) (by decide) rfl (fun ls hl => ?_)
        refine lv_goto (tgt := 2) hx hb dX6_child_52 (by decide) ?_
        exact ih_2 (i + 1) _ _ _ ⟨(by omega), (ffi_s hno (by simp only [decide_eq_true_eq]; exact fun h9 => c_43 h9.2)), rfl, rfl, (lv_sub hl [0, 2, 3, 4] rfl)⟩ (by show n - (i + 1) < n - i; omega)
      · skip
        refine lv_aload hx hb dX6_child_46 (lv_at hl 0 rfl) ?_
        exact W.aret (v := .ref (ea i)) hx hb hr (Or.inl ⟨_, rfl⟩) (Or.inr ⟨_, rfl⟩) (fun t9 ht _ => ⟨some (ea i), rfl, (by rw [ffi_hit hno (by simp only [decide_eq_true_eq]; refine ⟨?_, c_43⟩; rw [hpi i (by omega)] at c_34; cases e7 : pi i with | none => rw [e7] at c_34; exact nomatch c_34 | some z => rw [e7] at c_34; rw [hinj z q (hpn i z (by omega) e7) hq (Option.some.inj c_34)]) (by omega)]; rfl), ht⟩) (fun _ h => absurd h List.not_mem_nil) dX6_child_48

set_option maxRecDepth 20000 in
theorem iX6_isEntered_0_X0 : ∀ w ∈ wsX00, w ∈ wsX6_isEntered := by decide +kernel
set_option maxHeartbeats 4000000 in
set_option maxRecDepth 100000 in
/-- Tree.isEntered, the root -/
theorem c_X6_isEntered_0 (l : Launch) (D : va_G) (i : Nat) (k : Nat) (ea : Nat → Nat) (wa : Nat → Nat) (pf : Nat → Option Nat) (cn : Nat → Nat) (dp : Nat → Nat) (oc : Nat → Nat) (ic : Nat → Int32) (lf : Nat → Int32) (pt : Nat → Int32) (wd : Nat → Nat) (n : Nat) (hi : i < n) (hpf : pf i = none) : Met l yX6_isEntered wsX6_isEntered { frames := 0, cells := 0, slots := 0, locals := 0 } (va_Pc [.ref (ea i), .int (nI k)] (qP D ([] ++ (EW ea wa pf cn dp oc ic lf pt n ++ WW wa wd n)) [])) (vp_Si (fun rv : Int32 => rv = nI 1)) 0 0 (fun _ => False) := by
  refine Met.ofW (cc := cX6_isEntered) (maxL := 3) (ret := (some .boolean)) (by decide) rfl ?_
  intro pM eM s mi9 argsM belowM methM cM sM B hml hv
  obtain ⟨rfl, hR, hK, hNw⟩ := hv
  have hx := B.exec
  have hb := B.bytes
  have hr := B.returns
  have hts := atoms_spec (ws := wsX6_isEntered) B.pre
  have hown : s.vm.findClass RX6 = some mi9.cls := findClass_of_methodNamed B.named
  have hlocks := B.notSynchronized
  have hS : va_S (fun _ => False) s.heap s.heap [] := va_S.rf
  have hR : va_P D vwCl ([] ++ (EW ea wa pf cn dp oc ic lf pt n ++ WW wa wd n)) s.heap := hR
  have hl := lv_entry ([.ref (ea i), .int (nI k)]) (n := 3) (Nat.le_of_ble_eq_true rfl)
  rw [lg_entry_eq]
  generalize (lg_sl ([.ref (ea i), .int (nI k)]) ++ List.replicate (3 - (lg_sl ([.ref (ea i), .int (nI k)])).length) Slot.unset).toArray = ls at hl ⊢
  have hl : lv_has ls 3 [(0, .ref (ea i)), (1, .int (nI k))] := hl
  refine lv_aload_n hx hb dX6_isEntered_0 rfl (lv_at hl 0 rfl) ?_
  refine va_getN (host := "FuzzyFens") (D := D) (own := RX6) (ref := "FuzzyFens$Entry") (ci := 0) (v := va_rf (pf i)) (C := RX0) (T := TX0) (N := 8) hx hb hts iX6_isEntered_0_X0 hown hK (E_at hR i (by omega)) 0 rfl rfl 1 (by decide) (va_Nw.use rfl (hNw.1 ("FuzzyFens$Tree", 67, "FuzzyFens$Entry", "parent", "LFuzzyFens$Entry;") (List.mem_of_getElem? (i := 9) rfl))) (fun _ h9 => h9) rfl dX6_isEntered_1 ?_
  refine q_cvv (show va_rf (pf i) = .null from (by rw [hpf]; rfl)) ?_
  refine lv_astore_nN (lv' := [(2, .null), (0, .ref (ea i)), (1, .int (nI k))]) hx hb dX6_isEntered_4 rfl hl (by decide) rfl (fun ls hl => ?_)
  refine lv_aload_nN hx hb dX6_isEntered_5 rfl (lv_at hl 0 rfl) ?_
  refine lv_ifnonnullN hx hb dX6_isEntered_6 ?_
  refine lv_iconst (v := nI 1) hx hb dX6_isEntered_9 (by decide) ?_
  exact W.zret (v := nI 1) hx hb hr (by decide) (fun t9 ht _ => ⟨nI 1, rfl, rfl, ht⟩) (fun _ h => absurd h List.not_mem_nil) dX6_isEntered_10

set_option maxRecDepth 20000 in
theorem iX6_isEntered_p_X0 : ∀ w ∈ wsX00, w ∈ wsX6_isEntered := by decide +kernel
set_option maxHeartbeats 4000000 in
set_option maxRecDepth 100000 in
/-- Tree.isEntered -/
theorem c_X6_isEntered_p (l : Launch) (D : va_G) (i : Nat) (k : Nat) (q : Nat) (C : Bool) (dq : Nat) (ea : Nat → Nat) (wa : Nat → Nat) (pf : Nat → Option Nat) (cn : Nat → Nat) (dp : Nat → Nat) (oc : Nat → Nat) (ic : Nat → Int32) (lf : Nat → Int32) (pt : Nat → Int32) (wd : Nat → Nat) (n : Nat) (hi : i < n) (hq : q < n) (hpf : pf i = some (ea q)) (hic : ic q = if C = true then 1 else 0) (hlf : C = true → lf q = nI dq) (hb1 : cn i < 2 ^ 30) (hb2 : dq < 2 ^ 30) (hk : k < 2 ^ 30) : Met l yX6_isEntered wsX6_isEntered { frames := 1, cells := 0, slots := 0, locals := 13 } (va_Pc [.ref (ea i), .int (nI k)] (qP D ([] ++ (EW ea wa pf cn dp oc ic lf pt n ++ WW wa wd n)) [])) (vp_Si (fun rv : Int32 => rv = (if C = true ∧ cn i ≤ dq + k ∧ dq ≤ cn i + k then 1 else 0))) 0 0 (fun _ => False) := by
  refine Met.ofW (cc := cX6_isEntered) (maxL := 3) (ret := (some .boolean)) (by decide) rfl ?_
  intro pM eM s mi9 argsM belowM methM cM sM B hml hv
  obtain ⟨rfl, hR, hK, hNw⟩ := hv
  have hx := B.exec
  have hb := B.bytes
  have hr := B.returns
  have hts := atoms_spec (ws := wsX6_isEntered) B.pre
  have hown : s.vm.findClass RX6 = some mi9.cls := findClass_of_methodNamed B.named
  have hlocks := B.notSynchronized
  have hS : va_S (fun _ => False) s.heap s.heap [] := va_S.rf
  have hR : va_P D vwCl ([] ++ (EW ea wa pf cn dp oc ic lf pt n ++ WW wa wd n)) s.heap := hR
  have hl := lv_entry ([.ref (ea i), .int (nI k)]) (n := 3) (Nat.le_of_ble_eq_true rfl)
  rw [lg_entry_eq]
  generalize (lg_sl ([.ref (ea i), .int (nI k)]) ++ List.replicate (3 - (lg_sl ([.ref (ea i), .int (nI k)])).length) Slot.unset).toArray = ls at hl ⊢
  have hl : lv_has ls 3 [(0, .ref (ea i)), (1, .int (nI k))] := hl
  refine lv_aload_n hx hb dX6_isEntered_0 rfl (lv_at hl 0 rfl) ?_
  refine va_getN (host := "FuzzyFens") (D := D) (own := RX6) (ref := "FuzzyFens$Entry") (ci := 0) (v := va_rf (pf i)) (C := RX0) (T := TX0) (N := 8) hx hb hts iX6_isEntered_p_X0 hown hK (E_at hR i (by omega)) 0 rfl rfl 1 (by decide) (va_Nw.use rfl (hNw.1 ("FuzzyFens$Tree", 67, "FuzzyFens$Entry", "parent", "LFuzzyFens$Entry;") (List.mem_of_getElem? (i := 9) rfl))) (fun _ h9 => h9) rfl dX6_isEntered_1 ?_
  refine q_cvv (show va_rf (pf i) = .ref (ea q) from (by rw [hpf]; rfl)) ?_
  refine lv_astore_n (lv' := [(2, .ref (ea q)), (0, .ref (ea i)), (1, .int (nI k))]) hx hb dX6_isEntered_4 rfl hl (by decide) rfl (fun ls hl => ?_)
  refine lv_aload_n hx hb dX6_isEntered_5 rfl (lv_at hl 0 rfl) ?_
  refine lv_ifnonnull (tgt := 11) hx hb dX6_isEntered_6 (by decide) ?_
  refine lv_aload_n hx hb dX6_isEntered_11 rfl (lv_at hl 0 rfl) ?_
  refine va_getN (host := "FuzzyFens") (D := D) (own := RX6) (ref := "FuzzyFens$Entry") (ci := 0) (v := .int (ic q)) (C := RX0) (T := TX0) (N := 8) hx hb hts iX6_isEntered_p_X0 hown hK (E_at hR q (by omega)) 0 rfl rfl 5 (by decide) (va_Nw.use rfl (hNw.1 ("FuzzyFens$Tree", 59, "FuzzyFens$Entry", "isCompared", "Z") (List.mem_of_getElem? (i := 14) rfl))) (fun _ h9 => h9) rfl dX6_isEntered_12 ?_
  refine q_cvi (show (ic q) = (if C = true then 1 else 0) from hic) ?_
  refine q_ifb_eq (tgt := 38) hx hb dX6_isEntered_15 (by decide) (fun c_15 => ?_) (fun c_15 => ?_)
  · skip
    refine lv_iconst (v := nI 0) hx hb dX6_isEntered_38 (by decide) ?_
    exact W.zret (v := nI 0) hx hb hr (by decide) (fun t9 ht _ => ⟨nI 0, rfl, (if_neg (fun h9 => c_15 h9.1)).symm, ht⟩) (fun _ h => absurd h List.not_mem_nil) dX6_isEntered_39
  · skip
    refine lv_aload_n hx hb dX6_isEntered_18 rfl (lv_at hl 1 rfl) ?_
    refine va_getN (host := "FuzzyFens") (D := D) (own := RX6) (ref := "FuzzyFens$Entry") (ci := 0) (v := .int (nI (cn i))) (C := RX0) (T := TX0) (N := 8) hx hb hts iX6_isEntered_p_X0 hown hK (E_at hR i (by omega)) 0 rfl rfl 2 (by decide) (va_Nw.use rfl (hNw.1 ("FuzzyFens$Tree", 71, "FuzzyFens$Entry", "childNumber", "I") (List.mem_of_getElem? (i := 11) rfl))) (fun _ h9 => h9) rfl dX6_isEntered_19 ?_
    refine lv_aload_n hx hb dX6_isEntered_22 rfl (lv_at hl 0 rfl) ?_
    refine va_getN (host := "FuzzyFens") (D := D) (own := RX6) (ref := "FuzzyFens$Entry") (ci := 0) (v := .int (lf q)) (C := RX0) (T := TX0) (N := 8) hx hb hts iX6_isEntered_p_X0 hown hK (E_at hR q (by omega)) 0 rfl rfl 6 (by decide) (va_Nw.use rfl (hNw.1 ("FuzzyFens$Tree", 63, "FuzzyFens$Entry", "lettersFromTyped", "I") (List.mem_of_getElem? (i := 15) rfl))) (fun _ h9 => h9) rfl dX6_isEntered_23 ?_
    refine q_cvi (show (lf q) = (nI dq) from hlf c_15) ?_
    refine lv_isub hx hb dX6_isEntered_26 ?_
    refine va_mabs hx hb (hml.trans hl.1.symm) hown (hts (.methodLink RX6 74 Lib.Math.abs.name) (List.mem_of_getElem? (i := 1) rfl)) (hts (.static Lib.Math.abs.name) (List.mem_of_getElem? (i := 2) rfl)) (hts (.initialized "java/lang/Math") (List.mem_of_getElem? (i := 3) rfl)) (hts (.code Lib.Math.abs.name Lib.Math.abs.code 1 (some .int)) (List.mem_of_getElem? (i := 4) rfl)) (Nat.le_of_ble_eq_true rfl) (Nat.le_of_ble_eq_true rfl) (Nat.le_of_ble_eq_true rfl) (Nat.le_of_ble_eq_true rfl) dX6_isEntered_27 ?_
    refine q_cvi (show (if 0 ≤ ((nI (cn i)) - (nI dq)) then ((nI (cn i)) - (nI dq)) else 0 - ((nI (cn i)) - (nI dq))) = (nI (adf (cn i) dq)) from q_abs (by omega) (by omega)) ?_
    refine lv_iload_n hx hb dX6_isEntered_30 rfl (lv_at hl 2 rfl) ?_
    refine q_icmp_gt (a := adf (cn i) dq) (b := k) (tgt := 38) hx hb dX6_isEntered_31 (by decide) (by unfold adf; omega) (by omega) (fun c_31 => ?_) (fun c_31 => ?_)
    · skip
      unfold adf at c_31
      refine lv_iconst (v := nI 0) hx hb dX6_isEntered_38 (by decide) ?_
      exact W.zret (v := nI 0) hx hb hr (by decide) (fun t9 ht _ => ⟨nI 0, rfl, (if_neg (fun h9 => by omega)).symm, ht⟩) (fun _ h => absurd h List.not_mem_nil) dX6_isEntered_39
    · skip
      unfold adf at c_31
      refine lv_iconst (v := nI 1) hx hb dX6_isEntered_34 (by decide) ?_
      refine lv_goto (tgt := 39) hx hb dX6_isEntered_35 (by decide) ?_
      exact W.zret (v := nI 1) hx hb hr (by decide) (fun t9 ht _ => ⟨nI 1, rfl, (if_pos ⟨c_15, by omega⟩).symm, ht⟩) (fun _ h => absurd h List.not_mem_nil) dX6_isEntered_39

set_option maxRecDepth 20000 in
theorem iX7_lettersPassed_p_X0 : ∀ w ∈ wsX00, w ∈ wsX7_lettersPassed := by decide +kernel
set_option maxHeartbeats 4000000 in
set_option maxRecDepth 100000 in
/-- Trie.lettersPassed -/
theorem c_X7_lettersPassed_p (l : Launch) (D : va_G) (sh : Nat) (ar : Nat) (cS : ClassId) (f : Nat → Option Nat) (m : Nat) (ki : Nat → Nat) (i : Nat) (ea : Nat → Nat) (wa : Nat → Nat) (pf : Nat → Option Nat) (cn : Nat → Nat) (dp : Nat → Nat) (oc : Nat → Nat) (ic : Nat → Int32) (lf : Nat → Int32) (pt : Nat → Int32) (wd : Nat → Nat) (n : Nat) (hm : m ≤ 40) (hf : ∀ j, j < m → f j = some (ea (ki j))) (hki : ∀ j, j < m → ki j < n) (hg : ∀ k, k < n → gw (wd k)) (h0 : 0 < i) (hi : i < m) : Met l yX7_lettersPassed wsX7_lettersPassed { frames := 2, cells := 0, slots := 0, locals := 44 } (va_Pc [.ref sh, .int (nI i)] (qP D ([(sh, .inr (4, [.ref ar, .int (nI m)])), (ar, .inl (cS, 40, .inr (.inr (.inr (.inr f)))))] ++ (EW ea wa pf cn dp oc ic lf pt n ++ WW wa wd n)) [(cS, .object "FuzzyFens$Entry")])) (vp_Si (fun rv : Int32 => rv = nI (lpa wd ki i))) 0 0 (fun _ => False) := by
  refine Met.ofW (cc := cX7_lettersPassed) (maxL := 4) (ret := (some .int)) (by decide) rfl ?_
  intro pM eM s mi9 argsM belowM methM cM sM B hml hv
  obtain ⟨rfl, hR, hK, hNw⟩ := hv
  have hx := B.exec
  have hb := B.bytes
  have hr := B.returns
  have hts := atoms_spec (ws := wsX7_lettersPassed) B.pre
  have hown : s.vm.findClass RX7 = some mi9.cls := findClass_of_methodNamed B.named
  have hlocks := B.notSynchronized
  have hS : va_S (fun _ => False) s.heap s.heap [] := va_S.rf
  have hR : va_P D vwCl ([(sh, .inr (4, [.ref ar, .int (nI m)])), (ar, .inl (cS, 40, .inr (.inr (.inr (.inr f)))))] ++ (EW ea wa pf cn dp oc ic lf pt n ++ WW wa wd n)) s.heap := hR
  have hl := lv_entry ([.ref sh, .int (nI i)]) (n := 4) (Nat.le_of_ble_eq_true rfl)
  rw [lg_entry_eq]
  generalize (lg_sl ([.ref sh, .int (nI i)]) ++ List.replicate (4 - (lg_sl ([.ref sh, .int (nI i)])).length) Slot.unset).toArray = ls at hl ⊢
  have hl : lv_has ls 4 [(0, .ref sh), (1, .int (nI i))] := hl
  refine lv_aload_n hx hb dX7_lettersPassed_0 rfl (lv_at hl 0 rfl) ?_
  refine lv_iload_n hx hb dX7_lettersPassed_1 rfl (lv_at hl 1 rfl) ?_
  refine lv_iconst (v := nI 1) hx hb dX7_lettersPassed_2 (by decide) ?_
  refine q_isub (d := i - 1) hx hb dX7_lettersPassed_3 (by omega) ?_
  refine va_csq (W.runV (As := [.int (nI (i - 1))]) (rest := []) ⟨hx, hb, hml, hown, hts⟩ (c_X5_at (l := l) (D := D) (sh := sh) (ar := ar) (cS := cS) (f := f) (m := m) (i := i - 1) (hi := by omega) (hm := hm)) (cwV 1 hts gX7_lettersPassed_X5_at rfl rfl rfl (by decide +kernel) ⟨Nat.le_of_ble_eq_true rfl, Nat.le_of_ble_eq_true rfl⟩) ⟨qP_blind, (va_recv hK hR (ci := 4) (q0 := 0) rfl rfl), (qP_of (hR.sub (ws' := [(sh, .inr (4, [.ref ar, .int (nI m)])), (ar, .inl (cS, 40, .inr (.inr (.inr (.inr f)))))]) [0, 1] rfl) (hK.sub (tys' := [(cS, .object "FuzzyFens$Entry")]) [0] rfl) hNw)⟩ rfl rfl hl.1 rfl (lv_room (Nat.le_of_ble_eq_true rfl)) dX7_lettersPassed_4 ⟨Nat.le_of_ble_eq_true rfl, Nat.le_of_ble_eq_true rfl⟩) (fun r_1 hr_1 => ?_)
  subst hr_1
  have e9 : f (i - 1) = some (ea (ki (i - 1))) := hf _ (by omega)
  have hk9 := hki (i - 1) (by omega)
  refine q_cvv (show va_rf (f (i - 1)) = .ref (ea (ki (i - 1))) from (by rw [e9]; rfl)) ?_
  have hk8 := hk9
  refine lv_astore_n (lv' := [(2, .ref (ea (ki (i - 1)))), (0, .ref sh), (1, .int (nI i))]) hx hb dX7_lettersPassed_7 rfl hl (by decide) rfl (fun ls hl => ?_)
  refine lv_aload_n hx hb dX7_lettersPassed_8 rfl (lv_at hl 1 rfl) ?_
  refine lv_iload_n hx hb dX7_lettersPassed_9 rfl (lv_at hl 2 rfl) ?_
  refine va_csq (W.runV (As := [.int (nI i)]) (rest := []) ⟨hx, hb, hml, hown, hts⟩ (c_X5_at (l := l) (D := D) (sh := sh) (ar := ar) (cS := cS) (f := f) (m := m) (i := i) (hi := hi) (hm := hm)) (cwV 1 hts gX7_lettersPassed_X5_at rfl rfl rfl (by decide +kernel) ⟨Nat.le_of_ble_eq_true rfl, Nat.le_of_ble_eq_true rfl⟩) ⟨qP_blind, (va_recv hK hR (ci := 4) (q0 := 0) rfl rfl), (qP_of (hR.sub (ws' := [(sh, .inr (4, [.ref ar, .int (nI m)])), (ar, .inl (cS, 40, .inr (.inr (.inr (.inr f)))))]) [0, 1] rfl) (hK.sub (tys' := [(cS, .object "FuzzyFens$Entry")]) [0] rfl) hNw)⟩ rfl rfl hl.1 rfl (lv_room (Nat.le_of_ble_eq_true rfl)) dX7_lettersPassed_10 ⟨Nat.le_of_ble_eq_true rfl, Nat.le_of_ble_eq_true rfl⟩) (fun r_2 hr_2 => ?_)
  subst hr_2
  have e9 : f i = some (ea (ki i)) := hf _ (by omega)
  have hk9 := hki i (by omega)
  refine q_cvv (show va_rf (f i) = .ref (ea (ki i)) from (by rw [e9]; rfl)) ?_
  refine lv_astore_n (lv' := [(3, .ref (ea (ki i))), (2, .ref (ea (ki (i - 1)))), (0, .ref sh), (1, .int (nI i))]) hx hb dX7_lettersPassed_13 rfl hl (by decide) rfl (fun ls hl => ?_)
  refine lv_aload_n hx hb dX7_lettersPassed_14 rfl (lv_at hl 1 rfl) ?_
  refine lv_ifnull hx hb dX7_lettersPassed_15 ?_
  refine lv_aload_n hx hb dX7_lettersPassed_18 rfl (lv_at hl 0 rfl) ?_
  refine lv_ifnonnull (tgt := 24) hx hb dX7_lettersPassed_19 (by decide) ?_
  refine lv_aload_n hx hb dX7_lettersPassed_24 rfl (lv_at hl 0 rfl) ?_
  refine va_getN (host := "FuzzyFens") (D := D) (own := RX7) (ref := "FuzzyFens$Entry") (ci := 0) (v := .ref (wa (ki i))) (C := RX0) (T := TX0) (N := 8) hx hb hts iX7_lettersPassed_p_X0 hown hK (E_at hR (ki i) (by omega)) 0 rfl rfl 0 (by decide) (va_Nw.use rfl (hNw.1 ("FuzzyFens$Trie", 30, "FuzzyFens$Entry", "word", "LFuzzyFens$Word;") (List.mem_of_getElem? (i := 6) rfl))) (fun _ h9 => h9) rfl dX7_lettersPassed_25 ?_
  refine lv_aload_n hx hb dX7_lettersPassed_28 rfl (lv_at hl 1 rfl) ?_
  refine va_getN (host := "FuzzyFens") (D := D) (own := RX7) (ref := "FuzzyFens$Entry") (ci := 0) (v := .ref (wa (ki (i - 1)))) (C := RX0) (T := TX0) (N := 8) hx hb hts iX7_lettersPassed_p_X0 hown hK (E_at hR (ki (i - 1)) (by omega)) 0 rfl rfl 0 (by decide) (va_Nw.use rfl (hNw.1 ("FuzzyFens$Trie", 30, "FuzzyFens$Entry", "word", "LFuzzyFens$Word;") (List.mem_of_getElem? (i := 6) rfl))) (fun _ h9 => h9) rfl dX7_lettersPassed_29 ?_
  refine vp_callSi (W.runV (As := [.ref (wa (ki (i - 1)))]) (rest := []) ⟨hx, hb, hml, hown, hts⟩ (c_X8_beginningSharedWith (l := l) (D := D) (w := wa (ki i)) (v := wa (ki (i - 1))) (a := wd (ki i)) (b := wd (ki (i - 1))) (hga := hg _ hk9) (hgb := hg _ hk8)) (cwV 1 hts gX7_lettersPassed_X8_beginningSharedWith rfl rfl rfl (by decide +kernel) ⟨Nat.le_of_ble_eq_true rfl, Nat.le_of_ble_eq_true rfl⟩) ⟨qP_blind, (va_recv hK (W_at hR (ki i) (by omega)) (ci := 7) (q0 := 0) rfl rfl), (qP_of (show va_P D vwCl [(wa (ki i), .inr (7, [.long (lN (wd (ki i))), .int (nI (wl (wd (ki i)))), .long (lN (al (wd (ki i))))])), (wa (ki (i - 1)), .inr (7, [.long (lN (wd (ki (i - 1)))), .int (nI (wl (wd (ki (i - 1))))), .long (lN (al (wd (ki (i - 1)))))]))] _ from (va_P.app ((W_at hR (ki i) (by omega))) ((W_at hR (ki (i - 1)) (by omega))))) (hK.sub (tys' := []) [] rfl) hNw)⟩ rfl rfl hl.1 rfl (lv_room (Nat.le_of_ble_eq_true rfl)) dX7_lettersPassed_32 ⟨Nat.le_of_ble_eq_true rfl, Nat.le_of_ble_eq_true rfl⟩) (fun r_3 hr_3 => ?_)
  subst hr_3
  exact W.iret (v := nI (shr (wd (ki i)) (wd (ki (i - 1))) 10 0)) hx hb hr (fun t9 ht _ => ⟨nI (shr (wd (ki i)) (wd (ki (i - 1))) 10 0), rfl, (congrArg nI (if_neg (by omega)).symm), ht⟩) (fun _ h => absurd h List.not_mem_nil) dX7_lettersPassed_35

set_option maxHeartbeats 4000000 in
set_option maxRecDepth 100000 in
/-- Trie.lettersPassed, the first -/
theorem c_X7_lettersPassed_0 (l : Launch) (D : va_G) (sh : Nat) (ar : Nat) (cS : ClassId) (f : Nat → Option Nat) (m : Nat) (ki : Nat → Nat) (ea : Nat → Nat) (wa : Nat → Nat) (pf : Nat → Option Nat) (cn : Nat → Nat) (dp : Nat → Nat) (oc : Nat → Nat) (ic : Nat → Int32) (lf : Nat → Int32) (pt : Nat → Int32) (wd : Nat → Nat) (n : Nat) (hm : m ≤ 40) (hf : ∀ j, j < m → f j = some (ea (ki j))) (hki : ∀ j, j < m → ki j < n) (hg : ∀ k, k < n → gw (wd k)) (h0 : 0 < m) : Met l yX7_lettersPassed wsX7_lettersPassed { frames := 2, cells := 0, slots := 0, locals := 44 } (va_Pc [.ref sh, .int (nI 0)] (qP D ([(sh, .inr (4, [.ref ar, .int (nI m)])), (ar, .inl (cS, 40, .inr (.inr (.inr (.inr f)))))] ++ (EW ea wa pf cn dp oc ic lf pt n ++ WW wa wd n)) [(cS, .object "FuzzyFens$Entry")])) (vp_Si (fun rv : Int32 => rv = nI (lpa wd ki 0))) 0 0 (fun _ => False) := by
  refine Met.ofW (cc := cX7_lettersPassed) (maxL := 4) (ret := (some .int)) (by decide) rfl ?_
  intro pM eM s mi9 argsM belowM methM cM sM B hml hv
  obtain ⟨rfl, hR, hK, hNw⟩ := hv
  have hx := B.exec
  have hb := B.bytes
  have hr := B.returns
  have hts := atoms_spec (ws := wsX7_lettersPassed) B.pre
  have hown : s.vm.findClass RX7 = some mi9.cls := findClass_of_methodNamed B.named
  have hlocks := B.notSynchronized
  have hS : va_S (fun _ => False) s.heap s.heap [] := va_S.rf
  have hR : va_P D vwCl ([(sh, .inr (4, [.ref ar, .int (nI m)])), (ar, .inl (cS, 40, .inr (.inr (.inr (.inr f)))))] ++ (EW ea wa pf cn dp oc ic lf pt n ++ WW wa wd n)) s.heap := hR
  have hl := lv_entry ([.ref sh, .int (nI 0)]) (n := 4) (Nat.le_of_ble_eq_true rfl)
  rw [lg_entry_eq]
  generalize (lg_sl ([.ref sh, .int (nI 0)]) ++ List.replicate (4 - (lg_sl ([.ref sh, .int (nI 0)])).length) Slot.unset).toArray = ls at hl ⊢
  have hl : lv_has ls 4 [(0, .ref sh), (1, .int (nI 0))] := hl
  refine lv_aload_n hx hb dX7_lettersPassed_0 rfl (lv_at hl 0 rfl) ?_
  refine lv_iload_n hx hb dX7_lettersPassed_1 rfl (lv_at hl 1 rfl) ?_
  refine lv_iconst (v := nI 1) hx hb dX7_lettersPassed_2 (by decide) ?_
  refine lv_isub hx hb dX7_lettersPassed_3 ?_
  refine q_cvi (show ((nI 0) - (nI 1)) = ((-1)) from (by decide)) ?_
  refine va_csq (W.runV (As := [.int ((-1))]) (rest := []) ⟨hx, hb, hml, hown, hts⟩ (c_X5_at_neg (l := l) (D := D) (sh := sh) (ar := ar) (cS := cS) (f := f) (m := m) (x9 := (-1)) (hneg := by decide)) (cwV 1 hts gX7_lettersPassed_X5_at rfl rfl rfl (by decide +kernel) ⟨Nat.le_of_ble_eq_true rfl, Nat.le_of_ble_eq_true rfl⟩) ⟨qP_blind, (va_recv hK hR (ci := 4) (q0 := 0) rfl rfl), (qP_of (hR.sub (ws' := [(sh, .inr (4, [.ref ar, .int (nI m)])), (ar, .inl (cS, 40, .inr (.inr (.inr (.inr f)))))]) [0, 1] rfl) (hK.sub (tys' := [(cS, .object "FuzzyFens$Entry")]) [0] rfl) hNw)⟩ rfl rfl hl.1 rfl (lv_room (Nat.le_of_ble_eq_true rfl)) dX7_lettersPassed_4 ⟨Nat.le_of_ble_eq_true rfl, Nat.le_of_ble_eq_true rfl⟩) (fun r_1 hr_1 => ?_)
  subst hr_1
  refine q_cvv (show va_rf none = .null from rfl) ?_
  refine lv_astore_nN (lv' := [(2, .null), (0, .ref sh), (1, .int (nI 0))]) hx hb dX7_lettersPassed_7 rfl hl (by decide) rfl (fun ls hl => ?_)
  refine lv_aload_n hx hb dX7_lettersPassed_8 rfl (lv_at hl 1 rfl) ?_
  refine lv_iload_n hx hb dX7_lettersPassed_9 rfl (lv_at hl 2 rfl) ?_
  refine va_csq (W.runV (As := [.int (nI 0)]) (rest := []) ⟨hx, hb, hml, hown, hts⟩ (c_X5_at (l := l) (D := D) (sh := sh) (ar := ar) (cS := cS) (f := f) (m := m) (i := 0) (hi := h0) (hm := hm)) (cwV 1 hts gX7_lettersPassed_X5_at rfl rfl rfl (by decide +kernel) ⟨Nat.le_of_ble_eq_true rfl, Nat.le_of_ble_eq_true rfl⟩) ⟨qP_blind, (va_recv hK hR (ci := 4) (q0 := 0) rfl rfl), (qP_of (hR.sub (ws' := [(sh, .inr (4, [.ref ar, .int (nI m)])), (ar, .inl (cS, 40, .inr (.inr (.inr (.inr f)))))]) [0, 1] rfl) (hK.sub (tys' := [(cS, .object "FuzzyFens$Entry")]) [0] rfl) hNw)⟩ rfl rfl hl.1 rfl (lv_room (Nat.le_of_ble_eq_true rfl)) dX7_lettersPassed_10 ⟨Nat.le_of_ble_eq_true rfl, Nat.le_of_ble_eq_true rfl⟩) (fun r_2 hr_2 => ?_)
  subst hr_2
  have e9 : f 0 = some (ea (ki 0)) := hf _ (by omega)
  have hk9 := hki 0 (by omega)
  refine q_cvv (show va_rf (f 0) = .ref (ea (ki 0)) from (by rw [e9]; rfl)) ?_
  refine lv_astore_n (lv' := [(3, .ref (ea (ki 0))), (2, .null), (0, .ref sh), (1, .int (nI 0))]) hx hb dX7_lettersPassed_13 rfl hl (by decide) rfl (fun ls hl => ?_)
  refine lv_aload_nN hx hb dX7_lettersPassed_14 rfl (lv_at hl 1 rfl) ?_
  refine lv_ifnullN (tgt := 22) hx hb dX7_lettersPassed_15 (by decide) ?_
  refine lv_iconst (v := nI 0) hx hb dX7_lettersPassed_22 (by decide) ?_
  exact W.iret (v := nI 0) hx hb hr (fun t9 ht _ => ⟨nI 0, rfl, (by first | rfl | exact congrArg nI (by omega)), ht⟩) (fun _ h => absurd h List.not_mem_nil) dX7_lettersPassed_23

theorem c_X7_lettersPassed (l : Launch) (D : va_G) (sh : Nat) (ar : Nat) (cS : ClassId) (f : Nat → Option Nat) (m : Nat) (ki : Nat → Nat) (i : Nat) (ea : Nat → Nat) (wa : Nat → Nat) (pf : Nat → Option Nat) (cn : Nat → Nat) (dp : Nat → Nat) (oc : Nat → Nat) (ic : Nat → Int32) (lf : Nat → Int32) (pt : Nat → Int32) (wd : Nat → Nat) (n : Nat) (hm : m ≤ 40) (hf : ∀ j, j < m → f j = some (ea (ki j))) (hki : ∀ j, j < m → ki j < n) (hg : ∀ k, k < n → gw (wd k)) (hi : i < m) : Met l yX7_lettersPassed wsX7_lettersPassed { frames := 2, cells := 0, slots := 0, locals := 44 } (va_Pc [.ref sh, .int (nI i)] (qP D ([(sh, .inr (4, [.ref ar, .int (nI m)])), (ar, .inl (cS, 40, .inr (.inr (.inr (.inr f)))))] ++ (EW ea wa pf cn dp oc ic lf pt n ++ WW wa wd n)) [(cS, .object "FuzzyFens$Entry")])) (vp_Si (fun rv : Int32 => rv = nI (lpa wd ki i))) 0 0 (fun _ => False) := by
  rcases Nat.eq_zero_or_pos i with h | h
  · subst h; exact c_X7_lettersPassed_0 l D sh ar cS f m ki ea wa pf cn dp oc ic lf pt wd n hm hf hki hg hi
  · exact c_X7_lettersPassed_p l D sh ar cS f m ki i ea wa pf cn dp oc ic lf pt wd n hm hf hki hg h hi

set_option maxRecDepth 20000 in
theorem iX7_nodesOf_X0 : ∀ w ∈ wsX00, w ∈ wsX7_nodesOf := by decide +kernel
set_option maxRecDepth 20000 in
theorem iX7_nodesOf_X8 : ∀ w ∈ wsX80, w ∈ wsX7_nodesOf := by decide +kernel
set_option maxHeartbeats 4000000 in
set_option maxRecDepth 100000 in
/-- Trie.nodesOf -/
theorem c_X7_nodesOf (l : Launch) (D : va_G) (sh : Nat) (ar : Nat) (cS : ClassId) (f : Nat → Option Nat) (m : Nat) (ki : Nat → Nat) (ea : Nat → Nat) (wa : Nat → Nat) (pf : Nat → Option Nat) (cn : Nat → Nat) (dp : Nat → Nat) (oc : Nat → Nat) (ic : Nat → Int32) (lf : Nat → Int32) (pt : Nat → Int32) (wd : Nat → Nat) (n : Nat) (hm : m ≤ 40) (hf : ∀ j, j < m → f j = some (ea (ki j))) (hki : ∀ j, j < m → ki j < n) (hg : ∀ k, k < n → gw (wd k)) : Met l yX7_nodesOf wsX7_nodesOf { frames := 3, cells := 0, slots := 0, locals := 67 } (va_Pc [.ref sh] (qP D ([(sh, .inr (4, [.ref ar, .int (nI m)])), (ar, .inl (cS, 40, .inr (.inr (.inr (.inr f)))))] ++ (EW ea wa pf cn dp oc ic lf pt n ++ WW wa wd n)) [(cS, .object "FuzzyFens$Entry")])) (vp_Si (fun rv : Int32 => rv = nI (tnd wd ki m))) 0 0 (fun _ => False) := by
  refine Met.ofW (cc := cX7_nodesOf) (maxL := 4) (ret := (some .int)) (by decide) rfl ?_
  intro pM eM s mi9 argsM belowM methM cM sM B hml hv
  obtain ⟨rfl, hR, hK, hNw⟩ := hv
  have hx := B.exec
  have hb := B.bytes
  have hr := B.returns
  have hts := atoms_spec (ws := wsX7_nodesOf) B.pre
  have hown : s.vm.findClass RX7 = some mi9.cls := findClass_of_methodNamed B.named
  have hlocks := B.notSynchronized
  have hS : va_S (fun _ => False) s.heap s.heap [] := va_S.rf
  have hR : va_P D vwCl ([(sh, .inr (4, [.ref ar, .int (nI m)])), (ar, .inl (cS, 40, .inr (.inr (.inr (.inr f)))))] ++ (EW ea wa pf cn dp oc ic lf pt n ++ WW wa wd n)) s.heap := hR
  have hl := lv_entry ([.ref sh]) (n := 4) (Nat.le_of_ble_eq_true rfl)
  rw [lg_entry_eq]
  generalize (lg_sl ([.ref sh]) ++ List.replicate (4 - (lg_sl ([.ref sh])).length) Slot.unset).toArray = ls at hl ⊢
  have hl : lv_has ls 4 [(0, .ref sh)] := hl
  refine lv_iconst (v := nI 1) hx hb dX7_nodesOf_0 (by decide) ?_
  refine lv_istore_n (lv' := [(1, .int (nI 1)), (0, .ref sh)]) hx hb dX7_nodesOf_1 rfl hl (by decide) rfl (fun ls hl => ?_)
  refine lv_iconst (v := nI 0) hx hb dX7_nodesOf_2 (by decide) ?_
  refine lv_istore_n (lv' := [(2, .int (nI 0)), (1, .int (nI 1)), (0, .ref sh)]) hx hb dX7_nodesOf_3 rfl hl (by decide) rfl (fun ls hl => ?_)
  refine q_loop (fun (x : (Nat)) (Hc : Heap) (Lc : List Loc) (ls : Array Slot) => match x with | i => (i ≤ m) ∧ s.heap = Hc ∧ [] = Lc ∧ lv_has ls 4 [(2, .int (nI i)), (1, .int (nI (tnd wd ki i))), (0, .ref sh)]) (fun (x : (Nat)) => match x with | i => m - i) 0 ⟨(by omega), rfl, rfl, (lv_sub hl [0, 1, 2] rfl)⟩ ?_
  clear hl
  rintro i Hc Lc ls hI ih_4
  obtain ⟨hi, rfl, rfl, hl⟩ := hI
  refine lv_iload_n hx hb dX7_nodesOf_4 rfl (lv_at hl 0 rfl) ?_
  refine lv_aload_n hx hb dX7_nodesOf_5 rfl (lv_at hl 2 rfl) ?_
  refine vp_callSi (W.runV (As := []) (rest := [.int (nI i)]) ⟨hx, hb, hml, hown, hts⟩ (c_X5_size (l := l) (D := D) (sh := sh) (ar := ar) (m := m) ) (cwV 0 hts gX7_nodesOf_X5_size rfl rfl rfl (by decide +kernel) ⟨Nat.le_of_ble_eq_true rfl, Nat.le_of_ble_eq_true rfl⟩) ⟨qP_blind, (va_recv hK hR (ci := 4) (q0 := 0) rfl rfl), (qP_of (hR.sub (ws' := [(sh, .inr (4, [.ref ar, .int (nI m)]))]) [0] rfl) (hK.sub (tys' := []) [] rfl) hNw)⟩ rfl rfl hl.1 rfl (lv_room (Nat.le_of_ble_eq_true rfl)) dX7_nodesOf_6 ⟨Nat.le_of_ble_eq_true rfl, Nat.le_of_ble_eq_true rfl⟩) (fun r_1 hr_1 => ?_)
  subst hr_1
  refine q_icmp_ge (a := i) (b := m) (tgt := 44) hx hb dX7_nodesOf_9 (by decide) (by omega) (by omega) (fun c_9 => ?_) (fun c_9 => ?_)
  · skip
    refine lv_iload_n hx hb dX7_nodesOf_44 rfl (lv_at hl 1 rfl) ?_
    exact W.iret (v := nI (tnd wd ki i)) hx hb hr (fun t9 ht _ => ⟨nI (tnd wd ki i), rfl, (by rw [show m = i by omega]), ht⟩) (fun _ h => absurd h List.not_mem_nil) dX7_nodesOf_45
  · skip
    refine lv_aload_n hx hb dX7_nodesOf_12 rfl (lv_at hl 2 rfl) ?_
    refine lv_iload_n hx hb dX7_nodesOf_13 rfl (lv_at hl 0 rfl) ?_
    refine va_csq (W.runV (As := [.int (nI i)]) (rest := []) ⟨hx, hb, hml, hown, hts⟩ (c_X5_at (l := l) (D := D) (sh := sh) (ar := ar) (cS := cS) (f := f) (m := m) (i := i) (hi := by omega) (hm := hm)) (cwV 1 hts gX7_nodesOf_X5_at rfl rfl rfl (by decide +kernel) ⟨Nat.le_of_ble_eq_true rfl, Nat.le_of_ble_eq_true rfl⟩) ⟨qP_blind, (va_recv hK hR (ci := 4) (q0 := 0) rfl rfl), (qP_of (hR.sub (ws' := [(sh, .inr (4, [.ref ar, .int (nI m)])), (ar, .inl (cS, 40, .inr (.inr (.inr (.inr f)))))]) [0, 1] rfl) (hK.sub (tys' := [(cS, .object "FuzzyFens$Entry")]) [0] rfl) hNw)⟩ rfl rfl hl.1 rfl (lv_room (Nat.le_of_ble_eq_true rfl)) dX7_nodesOf_14 ⟨Nat.le_of_ble_eq_true rfl, Nat.le_of_ble_eq_true rfl⟩) (fun r_2 hr_2 => ?_)
    subst hr_2
    have e9 : f i = some (ea (ki i)) := hf _ (by omega)
    have hk9 := hki i (by omega)
    refine q_cvv (show va_rf (f i) = .ref (ea (ki i)) from (by rw [e9]; rfl)) ?_
    refine lv_astore_n (lv' := [(3, .ref (ea (ki i))), (2, .int (nI i)), (1, .int (nI (tnd wd ki i))), (0, .ref sh)]) hx hb dX7_nodesOf_17 rfl hl (by decide) rfl (fun ls hl => ?_)
    refine lv_aload_n hx hb dX7_nodesOf_18 rfl (lv_at hl 0 rfl) ?_
    refine lv_ifnull hx hb dX7_nodesOf_19 ?_
    refine lv_iload_n hx hb dX7_nodesOf_22 rfl (lv_at hl 2 rfl) ?_
    refine lv_aload_n hx hb dX7_nodesOf_23 rfl (lv_at hl 0 rfl) ?_
    refine va_getN (host := "FuzzyFens") (D := D) (own := RX7) (ref := "FuzzyFens$Entry") (ci := 0) (v := .ref (wa (ki i))) (C := RX0) (T := TX0) (N := 8) hx hb hts iX7_nodesOf_X0 hown hK (E_at hR (ki i) (by omega)) 0 rfl rfl 0 (by decide) (va_Nw.use rfl (hNw.1 ("FuzzyFens$Trie", 30, "FuzzyFens$Entry", "word", "LFuzzyFens$Word;") (List.mem_of_getElem? (i := 6) rfl))) (fun _ h9 => h9) rfl dX7_nodesOf_24 ?_
    refine va_getN (host := "FuzzyFens") (D := D) (own := RX7) (ref := "FuzzyFens$Word") (ci := 7) (v := .int (nI (wl (wd (ki i))))) (C := RX8) (T := TX8) (N := 3) hx hb hts iX7_nodesOf_X8 hown hK (W_at hR (ki i) (by omega)) 0 rfl rfl 1 (by decide) (va_Nw.use rfl (hNw.1 ("FuzzyFens$Trie", 36, "FuzzyFens$Word", "length", "I") (List.mem_of_getElem? (i := 3) rfl))) (fun _ h9 => h9) rfl dX7_nodesOf_27 ?_
    refine lv_aload_n hx hb dX7_nodesOf_30 rfl (lv_at hl 3 rfl) ?_
    refine lv_iload_n hx hb dX7_nodesOf_31 rfl (lv_at hl 1 rfl) ?_
    refine vp_callSi (W.runS (As := [.ref sh, .int (nI i)]) (rest := [.int (nI (wl (wd (ki i)))), .int (nI (tnd wd ki i))]) ⟨hx, hb, hml, hown, hts⟩ (c_X7_lettersPassed (l := l) (D := D) (sh := sh) (ar := ar) (cS := cS) (f := f) (m := m) (ki := ki) (i := i) (ea := ea) (wa := wa) (pf := pf) (cn := cn) (dp := dp) (oc := oc) (ic := ic) (lf := lf) (pt := pt) (wd := wd) (n := n) (hm := hm) (hf := hf) (hki := hki) (hg := hg) (hi := by omega)) (va_cwS 2 hts gX7_nodesOf_X7_lettersPassed rfl rfl rfl (by decide +kernel) ⟨Nat.le_of_ble_eq_true rfl, Nat.le_of_ble_eq_true rfl⟩) ⟨qP_blind, (qP_of (va_P.app (hR.sub (ws' := [(sh, .inr (4, [.ref ar, .int (nI m)])), (ar, .inl (cS, 40, .inr (.inr (.inr (.inr f)))))]) [0, 1] rfl) (q_right hR)) (hK.sub (tys' := [(cS, .object "FuzzyFens$Entry")]) [0] rfl) hNw)⟩ rfl rfl hl.1 rfl (lv_room (Nat.le_of_ble_eq_true rfl)) dX7_nodesOf_32 ⟨Nat.le_of_ble_eq_true rfl, Nat.le_of_ble_eq_true rfl⟩) (fun r_3 hr_3 => ?_)
    subst hr_3
    refine q_isub (d := wl (wd (ki i)) - lpa wd ki i) hx hb dX7_nodesOf_35 (by have := lpa_le wd ki i; omega) ?_
    refine q_iadd (d := tnd wd ki i + wl (wd (ki i)) - lpa wd ki i) hx hb dX7_nodesOf_36 (by have := lpa_le wd ki i; omega) ?_
    refine q_cvi (show (nI (tnd wd ki i + wl (wd (ki i)) - lpa wd ki i)) = (nI (tnd wd ki (i + 1))) from (by rw [show tnd wd ki (i + 1) = tnd wd ki i + (wl (wd (ki i)) - lpa wd ki i) from rfl]; congr 1; have := lpa_le wd ki i; omega)) ?_
    refine lv_istore_n (lv' := [(1, .int (nI (tnd wd ki (i + 1)))), (3, .ref (ea (ki i))), (2, .int (nI i)), (0, .ref sh)]) hx hb dX7_nodesOf_37 rfl hl (by decide) rfl (fun ls hl => ?_)
    refine lv_iinc (v := nI (i + 1)) (lv' := [(2, .int (nI (i + 1))), (1, .int (nI (tnd wd ki (i + 1)))), (3, .ref (ea (ki i))), (0, .ref sh)]) hx hb dX7_nodesOf_38 hl (k := 2) rfl (q_inc (k := 1) (by omega)) (by decide) rfl (fun ls hl => ?_)
    refine lv_goto (tgt := 4) hx hb dX7_nodesOf_41 (by decide) ?_
    exact ih_4 (i + 1) _ _ _ ⟨(by omega), rfl, rfl, (lv_sub hl [0, 1, 3] rfl)⟩ (by show m - (i + 1) < m - i; omega)
