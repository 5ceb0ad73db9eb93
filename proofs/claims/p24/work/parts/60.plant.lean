set_option maxRecDepth 20000 in
theorem iX0_init_n_X0 : ∀ w ∈ wsX00, w ∈ wsX0_init := by decide +kernel
set_option maxHeartbeats 4000000 in
set_option maxRecDepth 100000 in
/-- Entry(..), the root -/
theorem c_X0_init_n (l : Launch) (D : va_G) (sz : Nat) (e9 : Nat) (w9 : Nat) (c9 : Nat) (hnd : ([e9] ++ []).Nodup)  : Met l yX0_init wsX0_init { frames := 1, cells := 0, slots := 0, locals := 12 } (va_Pc [.ref e9, .ref w9, .null, .int (nI c9)] (qW D sz ([]) [(e9, .inr (0, [.null, .null, .int 0, .int 0, .int 0, .int 0, .int 0, .int 0]))] [])) (va_Qv (fun (uv : Unit) => True) (fun (uv : Unit) (tv : State) => va_P D vwCl [(e9, .inr (0, [.ref w9, .null, .int (nI c9), .int (nI 0), .int 0, .int 0, .int 0, .int 0]))] tv.heap) (va_A [(e9, .inr (0, [.null, .null, .int 0, .int 0, .int 0, .int 0, .int 0, .int 0]))] sz)) 0 0 (va_A [(e9, .inr (0, [.null, .null, .int 0, .int 0, .int 0, .int 0, .int 0, .int 0]))] sz) := by
  refine Met.ofW (cc := cX0_init) (maxL := 4) (ret := none) (by decide) rfl ?_
  intro pM eM s mi9 argsM belowM methM cM sM B hml hv
  obtain ⟨rfl, hsz, hR0, hP, hK, hNw⟩ := hv
  have hx := B.exec
  have hb := B.bytes
  have hr := B.returns
  have hts := atoms_spec (ws := wsX0_init) B.pre
  have hown : s.vm.findClass RX0 = some mi9.cls := findClass_of_methodNamed B.named
  have hlocks := B.notSynchronized
  have hin : methM.name = "<init>" := (name_of_methodNamed B.named B.method).1
  subst hsz
  have hna := q_na (RW := [(e9, .inr (0, [.null, .null, .int 0, .int 0, .int 0, .int 0, .int 0, .int 0]))]) (RO := []) hnd rfl rfl hR0
  have hD := q_D (RW := [(e9, .inr (0, [.null, .null, .int 0, .int 0, .int 0, .int 0, .int 0, .int 0]))]) (sz := s.heap.size) hnd rfl
  have hA : ∀ q : Nat, s.heap.size ≤ q → va_A [(e9, .inr (0, [.null, .null, .int 0, .int 0, .int 0, .int 0, .int 0, .int 0]))] s.heap.size q := fun q h => Or.inr h
  generalize hAe : va_A [(e9, .inr (0, [.null, .null, .int 0, .int 0, .int 0, .int 0, .int 0, .int 0]))] s.heap.size = A at hna hD hA ⊢
  have hS : va_S A s.heap s.heap [] := va_S.rf
  have hR := hR0
  have hP : va_P D vwCl [(e9, .inr (0, [.null, .null, .int 0, .int 0, .int 0, .int 0, .int 0, .int 0]))] s.heap := hP
  have hl := lv_entry ([.ref e9, .ref w9, .null, .int (nI c9)]) (n := 4) (Nat.le_of_ble_eq_true rfl)
  rw [lg_entry_eq]
  generalize (lg_sl ([.ref e9, .ref w9, .null, .int (nI c9)]) ++ List.replicate (4 - (lg_sl ([.ref e9, .ref w9, .null, .int (nI c9)])).length) Slot.unset).toArray = ls at hl ⊢
  have hl : lv_has ls 4 [(0, .ref e9), (1, .ref w9), (2, .null), (3, .int (nI c9))] := hl
  refine lv_aload_n hx hb dX0_init_0 rfl (lv_at hl 0 rfl) ?_
  refine W.objInit hx hb hown (hts (.methodLink RX0 1 objectInit) (List.mem_of_getElem? (i := 1) rfl)) (hts (.instanceMethod objectInit) (List.mem_of_getElem? (i := 2) rfl)) (hts (.code objectInit ⟨#[0xb1]⟩ 1 none) (List.mem_of_getElem? (i := 3) rfl)) rfl (by rw [hml]; exact hl.1) rfl dX0_init_1 (Nat.le_of_ble_eq_true rfl) (Nat.le_of_ble_eq_true rfl) ?_
  refine W.eq (g2 := F0 mi9 4 ls []) rfl ?_
  refine lv_aload_n hx hb dX0_init_4 rfl (lv_at hl 0 rfl) ?_
  refine lv_aload_n hx hb dX0_init_5 rfl (lv_at hl 1 rfl) ?_
  refine va_putF (D := D) (ci := 0) (v := .ref w9) (ty := .object "FuzzyFens$Word") (C := RX0) (T := TX0) (N := 8) hx hb hts iX0_init_n_X0 tyX0 tyX0_ok nmX0 hown hK hP hD hS 0 rfl rfl 0 (by decide) (hts (.fieldLink RX0 7 "FuzzyFens$Entry" "word" "LFuzzyFens$Word;") (List.mem_of_getElem? (i := 4) rfl)) (fun _ h9 => h9) rfl hin rfl (by decide +kernel) rfl rfl (Nat.le_of_ble_eq_true rfl) dX0_init_6 (fun H_1 locs_2 hP hD hS => ?_)
  have hP : va_P D vwCl [(e9, .inr (0, [.ref w9, .null, .int 0, .int 0, .int 0, .int 0, .int 0, .int 0]))] H_1 := hP
  have hD : va_D A [(e9, .inr (0, [.ref w9, .null, .int 0, .int 0, .int 0, .int 0, .int 0, .int 0]))] := hD
  have hR := q_ro hR0 hna hS
  refine lv_aload_n hx hb dX0_init_9 rfl (lv_at hl 0 rfl) ?_
  refine lv_aload_nN hx hb dX0_init_10 rfl (lv_at hl 2 rfl) ?_
  refine va_putF (D := D) (ci := 0) (v := .null) (ty := .object "FuzzyFens$Entry") (C := RX0) (T := TX0) (N := 8) hx hb hts iX0_init_n_X0 tyX0 tyX0_ok nmX0 hown hK hP hD hS 0 rfl rfl 1 (by decide) (hts (.fieldLink RX0 13 "FuzzyFens$Entry" "parent" "LFuzzyFens$Entry;") (List.mem_of_getElem? (i := 5) rfl)) (fun _ h9 => h9) rfl hin rfl (by decide +kernel) rfl rfl (Nat.le_of_ble_eq_true rfl) dX0_init_11 (fun H_3 locs_4 hP hD hS => ?_)
  have hP : va_P D vwCl [(e9, .inr (0, [.ref w9, .null, .int 0, .int 0, .int 0, .int 0, .int 0, .int 0]))] H_3 := hP
  have hD : va_D A [(e9, .inr (0, [.ref w9, .null, .int 0, .int 0, .int 0, .int 0, .int 0, .int 0]))] := hD
  have hR := q_ro hR0 hna hS
  refine lv_aload_n hx hb dX0_init_14 rfl (lv_at hl 0 rfl) ?_
  refine lv_iload_n hx hb dX0_init_15 rfl (lv_at hl 3 rfl) ?_
  refine va_putF (D := D) (ci := 0) (v := .int (nI c9)) (ty := .int) (C := RX0) (T := TX0) (N := 8) hx hb hts iX0_init_n_X0 tyX0 tyX0_ok nmX0 hown hK hP hD hS 0 rfl rfl 2 (by decide) (hts (.fieldLink RX0 17 "FuzzyFens$Entry" "childNumber" "I") (List.mem_of_getElem? (i := 6) rfl)) (fun _ h9 => h9) rfl hin rfl (by decide +kernel) rfl rfl (Nat.le_of_ble_eq_true rfl) dX0_init_16 (fun H_5 locs_6 hP hD hS => ?_)
  have hP : va_P D vwCl [(e9, .inr (0, [.ref w9, .null, .int (nI c9), .int 0, .int 0, .int 0, .int 0, .int 0]))] H_5 := hP
  have hD : va_D A [(e9, .inr (0, [.ref w9, .null, .int (nI c9), .int 0, .int 0, .int 0, .int 0, .int 0]))] := hD
  have hR := q_ro hR0 hna hS
  refine lv_aload_n hx hb dX0_init_19 rfl (lv_at hl 0 rfl) ?_
  refine lv_aload_nN hx hb dX0_init_20 rfl (lv_at hl 2 rfl) ?_
  refine lv_ifnonnullN hx hb dX0_init_21 ?_
  refine lv_iconst (v := nI 0) hx hb dX0_init_24 (by decide) ?_
  refine lv_goto (tgt := 34) hx hb dX0_init_25 (by decide) ?_
  refine va_putF (D := D) (ci := 0) (v := .int (nI 0)) (ty := .int) (C := RX0) (T := TX0) (N := 8) hx hb hts iX0_init_n_X0 tyX0 tyX0_ok nmX0 hown hK hP hD hS 0 rfl rfl 3 (by decide) (hts (.fieldLink RX0 21 "FuzzyFens$Entry" "depth" "I") (List.mem_of_getElem? (i := 7) rfl)) (fun _ h9 => h9) rfl hin rfl (by decide +kernel) rfl rfl (Nat.le_of_ble_eq_true rfl) dX0_init_34 (fun H_7 locs_8 hP hD hS => ?_)
  have hP : va_P D vwCl [(e9, .inr (0, [.ref w9, .null, .int (nI c9), .int (nI 0), .int 0, .int 0, .int 0, .int 0]))] H_7 := hP
  have hD : va_D A [(e9, .inr (0, [.ref w9, .null, .int (nI c9), .int (nI 0), .int 0, .int 0, .int 0, .int 0]))] := hD
  have hR := q_ro hR0 hna hS
  exact W.vret hx hb hr (fun t9 ht hW => ⟨⟨(), rfl, trivial, by show va_P D vwCl _ t9.heap; rw [ht]; exact hP⟩, hS.F ht⟩) hS.2.2 dX0_init_37

set_option maxRecDepth 20000 in
theorem iX0_init_p_X0 : ∀ w ∈ wsX00, w ∈ wsX0_init := by decide +kernel
set_option maxHeartbeats 4000000 in
set_option maxRecDepth 100000 in
/-- Entry(..) -/
theorem c_X0_init_p (l : Launch) (D : va_G) (sz : Nat) (e9 : Nat) (w9 : Nat) (c9 : Nat) (q : Nat) (ea : Nat → Nat) (wa : Nat → Nat) (pf : Nat → Option Nat) (cn : Nat → Nat) (dp : Nat → Nat) (oc : Nat → Nat) (ic : Nat → Int32) (lf : Nat → Int32) (pt : Nat → Int32) (wd : Nat → Nat) (n : Nat) (hnd : ([e9] ++ ([] ++ (rg ea n ++ rg wa n))).Nodup) (hq : q < n) : Met l yX0_init wsX0_init { frames := 1, cells := 0, slots := 0, locals := 12 } (va_Pc [.ref e9, .ref w9, .ref (ea q), .int (nI c9)] (qW D sz ([] ++ (EW ea wa pf cn dp oc ic lf pt n ++ WW wa wd n)) [(e9, .inr (0, [.null, .null, .int 0, .int 0, .int 0, .int 0, .int 0, .int 0]))] [])) (va_Qv (fun (uv : Unit) => True) (fun (uv : Unit) (tv : State) => va_P D vwCl [(e9, .inr (0, [.ref w9, .ref (ea q), .int (nI c9), .int (nI (dp q + 1)), .int 0, .int 0, .int 0, .int 0]))] tv.heap) (va_A [(e9, .inr (0, [.null, .null, .int 0, .int 0, .int 0, .int 0, .int 0, .int 0]))] sz)) 0 0 (va_A [(e9, .inr (0, [.null, .null, .int 0, .int 0, .int 0, .int 0, .int 0, .int 0]))] sz) := by
  refine Met.ofW (cc := cX0_init) (maxL := 4) (ret := none) (by decide) rfl ?_
  intro pM eM s mi9 argsM belowM methM cM sM B hml hv
  obtain ⟨rfl, hsz, hR0, hP, hK, hNw⟩ := hv
  have hx := B.exec
  have hb := B.bytes
  have hr := B.returns
  have hts := atoms_spec (ws := wsX0_init) B.pre
  have hown : s.vm.findClass RX0 = some mi9.cls := findClass_of_methodNamed B.named
  have hlocks := B.notSynchronized
  have hin : methM.name = "<init>" := (name_of_methodNamed B.named B.method).1
  subst hsz
  have hna := q_na (RW := [(e9, .inr (0, [.null, .null, .int 0, .int 0, .int 0, .int 0, .int 0, .int 0]))]) (RO := [] ++ (EW ea wa pf cn dp oc ic lf pt n ++ WW wa wd n)) hnd rfl (by rw [List.map_append, List.map_append, EW_fst, WW_fst]; rfl) hR0
  have hD := q_D (RW := [(e9, .inr (0, [.null, .null, .int 0, .int 0, .int 0, .int 0, .int 0, .int 0]))]) (sz := s.heap.size) hnd rfl
  have hA : ∀ q : Nat, s.heap.size ≤ q → va_A [(e9, .inr (0, [.null, .null, .int 0, .int 0, .int 0, .int 0, .int 0, .int 0]))] s.heap.size q := fun q h => Or.inr h
  generalize hAe : va_A [(e9, .inr (0, [.null, .null, .int 0, .int 0, .int 0, .int 0, .int 0, .int 0]))] s.heap.size = A at hna hD hA ⊢
  have hS : va_S A s.heap s.heap [] := va_S.rf
  have hR := hR0
  have hP : va_P D vwCl [(e9, .inr (0, [.null, .null, .int 0, .int 0, .int 0, .int 0, .int 0, .int 0]))] s.heap := hP
  have hl := lv_entry ([.ref e9, .ref w9, .ref (ea q), .int (nI c9)]) (n := 4) (Nat.le_of_ble_eq_true rfl)
  rw [lg_entry_eq]
  generalize (lg_sl ([.ref e9, .ref w9, .ref (ea q), .int (nI c9)]) ++ List.replicate (4 - (lg_sl ([.ref e9, .ref w9, .ref (ea q), .int (nI c9)])).length) Slot.unset).toArray = ls at hl ⊢
  have hl : lv_has ls 4 [(0, .ref e9), (1, .ref w9), (2, .ref (ea q)), (3, .int (nI c9))] := hl
  refine lv_aload_n hx hb dX0_init_0 rfl (lv_at hl 0 rfl) ?_
  refine W.objInit hx hb hown (hts (.methodLink RX0 1 objectInit) (List.mem_of_getElem? (i := 1) rfl)) (hts (.instanceMethod objectInit) (List.mem_of_getElem? (i := 2) rfl)) (hts (.code objectInit ⟨#[0xb1]⟩ 1 none) (List.mem_of_getElem? (i := 3) rfl)) rfl (by rw [hml]; exact hl.1) rfl dX0_init_1 (Nat.le_of_ble_eq_true rfl) (Nat.le_of_ble_eq_true rfl) ?_
  refine W.eq (g2 := F0 mi9 4 ls []) rfl ?_
  refine lv_aload_n hx hb dX0_init_4 rfl (lv_at hl 0 rfl) ?_
  refine lv_aload_n hx hb dX0_init_5 rfl (lv_at hl 1 rfl) ?_
  refine va_putF (D := D) (ci := 0) (v := .ref w9) (ty := .object "FuzzyFens$Word") (C := RX0) (T := TX0) (N := 8) hx hb hts iX0_init_p_X0 tyX0 tyX0_ok nmX0 hown hK hP hD hS 0 rfl rfl 0 (by decide) (hts (.fieldLink RX0 7 "FuzzyFens$Entry" "word" "LFuzzyFens$Word;") (List.mem_of_getElem? (i := 4) rfl)) (fun _ h9 => h9) rfl hin rfl (by decide +kernel) rfl rfl (Nat.le_of_ble_eq_true rfl) dX0_init_6 (fun H_1 locs_2 hP hD hS => ?_)
  have hP : va_P D vwCl [(e9, .inr (0, [.ref w9, .null, .int 0, .int 0, .int 0, .int 0, .int 0, .int 0]))] H_1 := hP
  have hD : va_D A [(e9, .inr (0, [.ref w9, .null, .int 0, .int 0, .int 0, .int 0, .int 0, .int 0]))] := hD
  have hR := q_ro hR0 hna hS
  refine lv_aload_n hx hb dX0_init_9 rfl (lv_at hl 0 rfl) ?_
  refine lv_aload_n hx hb dX0_init_10 rfl (lv_at hl 2 rfl) ?_
  refine va_putF (D := D) (ci := 0) (v := .ref (ea q)) (ty := .object "FuzzyFens$Entry") (C := RX0) (T := TX0) (N := 8) hx hb hts iX0_init_p_X0 tyX0 tyX0_ok nmX0 hown hK hP hD hS 0 rfl rfl 1 (by decide) (hts (.fieldLink RX0 13 "FuzzyFens$Entry" "parent" "LFuzzyFens$Entry;") (List.mem_of_getElem? (i := 5) rfl)) (fun _ h9 => h9) rfl hin rfl (by decide +kernel) rfl rfl (Nat.le_of_ble_eq_true rfl) dX0_init_11 (fun H_3 locs_4 hP hD hS => ?_)
  have hP : va_P D vwCl [(e9, .inr (0, [.ref w9, .ref (ea q), .int 0, .int 0, .int 0, .int 0, .int 0, .int 0]))] H_3 := hP
  have hD : va_D A [(e9, .inr (0, [.ref w9, .ref (ea q), .int 0, .int 0, .int 0, .int 0, .int 0, .int 0]))] := hD
  have hR := q_ro hR0 hna hS
  refine lv_aload_n hx hb dX0_init_14 rfl (lv_at hl 0 rfl) ?_
  refine lv_iload_n hx hb dX0_init_15 rfl (lv_at hl 3 rfl) ?_
  refine va_putF (D := D) (ci := 0) (v := .int (nI c9)) (ty := .int) (C := RX0) (T := TX0) (N := 8) hx hb hts iX0_init_p_X0 tyX0 tyX0_ok nmX0 hown hK hP hD hS 0 rfl rfl 2 (by decide) (hts (.fieldLink RX0 17 "FuzzyFens$Entry" "childNumber" "I") (List.mem_of_getElem? (i := 6) rfl)) (fun _ h9 => h9) rfl hin rfl (by decide +kernel) rfl rfl (Nat.le_of_ble_eq_true rfl) dX0_init_16 (fun H_5 locs_6 hP hD hS => ?_)
  have hP : va_P D vwCl [(e9, .inr (0, [.ref w9, .ref (ea q), .int (nI c9), .int 0, .int 0, .int 0, .int 0, .int 0]))] H_5 := hP
  have hD : va_D A [(e9, .inr (0, [.ref w9, .ref (ea q), .int (nI c9), .int 0, .int 0, .int 0, .int 0, .int 0]))] := hD
  have hR := q_ro hR0 hna hS
  refine lv_aload_n hx hb dX0_init_19 rfl (lv_at hl 0 rfl) ?_
  refine lv_aload_n hx hb dX0_init_20 rfl (lv_at hl 2 rfl) ?_
  refine lv_ifnonnull (tgt := 28) hx hb dX0_init_21 (by decide) ?_
  refine lv_aload_n hx hb dX0_init_28 rfl (lv_at hl 2 rfl) ?_
  refine va_get (D := D) (own := RX0) (ref := "FuzzyFens$Entry") (ci := 0) (v := .int (nI (dp q))) (C := RX0) (T := TX0) (N := 8) hx hb hts iX0_init_p_X0 hown hK (E_at hR q (by omega)) 0 rfl rfl 3 (by decide) (hts (.fieldLink RX0 21 "FuzzyFens$Entry" "depth" "I") (List.mem_of_getElem? (i := 7) rfl)) (fun _ h9 => h9) rfl dX0_init_29 ?_
  refine lv_iconst (v := nI 1) hx hb dX0_init_32 (by decide) ?_
  refine q_iadd (d := dp q + 1) hx hb dX0_init_33 (by omega) ?_
  refine va_putF (D := D) (ci := 0) (v := .int (nI (dp q + 1))) (ty := .int) (C := RX0) (T := TX0) (N := 8) hx hb hts iX0_init_p_X0 tyX0 tyX0_ok nmX0 hown hK hP hD hS 0 rfl rfl 3 (by decide) (hts (.fieldLink RX0 21 "FuzzyFens$Entry" "depth" "I") (List.mem_of_getElem? (i := 7) rfl)) (fun _ h9 => h9) rfl hin rfl (by decide +kernel) rfl rfl (Nat.le_of_ble_eq_true rfl) dX0_init_34 (fun H_7 locs_8 hP hD hS => ?_)
  have hP : va_P D vwCl [(e9, .inr (0, [.ref w9, .ref (ea q), .int (nI c9), .int (nI (dp q + 1)), .int 0, .int 0, .int 0, .int 0]))] H_7 := hP
  have hD : va_D A [(e9, .inr (0, [.ref w9, .ref (ea q), .int (nI c9), .int (nI (dp q + 1)), .int 0, .int 0, .int 0, .int 0]))] := hD
  have hR := q_ro hR0 hna hS
  exact W.vret hx hb hr (fun t9 ht hW => ⟨⟨(), rfl, trivial, by show va_P D vwCl _ t9.heap; rw [ht]; exact hP⟩, hS.F ht⟩) hS.2.2 dX0_init_37

set_option maxRecDepth 20000 in
theorem iX6_search_X0 : ∀ w ∈ wsX00, w ∈ wsX6_search := by decide +kernel
set_option maxRecDepth 20000 in
theorem iX6_search_X6 : ∀ w ∈ wsX60, w ∈ wsX6_search := by decide +kernel
set_option maxHeartbeats 4000000 in
set_option maxRecDepth 100000 in
/-- Tree.search -/
theorem c_X6_search (l : Launch) (D : va_G) (sz : Nat) (tr : Nat) (sh : Nat) (ar : Nat) (cS : ClassId) (f : Nat → Option Nat) (g : Nat) (gr : Nat) (ce : Nat) (cG : ClassId) (fc : Nat → Int32) (w0 : Nat) (v : Nat) (k : Nat) (ea : Nat → Nat) (wa : Nat → Nat) (pf : Nat → Option Nat) (cn : Nat → Nat) (dp : Nat → Nat) (oc : Nat → Nat) (ic : Nat → Int32) (lf : Nat → Int32) (pt : Nat → Int32) (wd : Nat → Nat) (n : Nat) (pi : Nat → Option Nat) (CC : Nat → Bool) (hnd : (([ce] ++ (rg ea n ++ rg wa n)) ++ [tr, sh, ar, g, gr, w0]).Nodup) (hfe : ∀ j, j < n → f j = some (ea j)) (hn40 : n ≤ 40) (hg : ∀ k, k < n → gw (wd k)) (hgv : gw v) (hpi : ∀ k, k < n → pf k = (pi k).map ea) (hpn : ∀ k i, k < n → pi k = some i → i < k) (hcb : ∀ k, k < n → cn k ≤ 20) (hk3 : k ≤ 3) (hCq : ∀ i, i < n → (CC i = true ↔ ∀ q, pi i = some q → (CC q = true ∧ cn i ≤ dst wd v q + k ∧ dst wd v q ≤ cn i + k))) : Met l yX6_search wsX6_search { frames := 4, cells := 0, slots := 0, locals := 94 } (va_Pc [.ref tr, .ref g, .ref w0, .int (nI k)] (qW D sz ([(tr, .inr (5, [.ref sh])), (sh, .inr (4, [.ref ar, .int (nI n)])), (ar, .inl (cS, 40, .inr (.inr (.inr (.inr f))))), (g, .inr (1, [.ref gr])), (gr, .inr (2, [.ref ce])), (w0, .inr (7, [.long (lN v), .int (nI (wl v)), .long (lN (al v))]))]) ([(ce, .inl (cG, 121, .inl fc))] ++ (EW ea wa pf cn dp oc ic lf pt n ++ WW wa wd n)) [(cG, .int), (cS, .object "FuzzyFens$Entry")])) (va_Qi (fun (rv : Int32) (uv : (Nat → Int32) × (Nat → Int32) × (Nat → Int32)) => rv = nI (cnt CC n)) (fun (uv : (Nat → Int32) × (Nat → Int32) × (Nat → Int32)) (tv : State) => va_P D vwCl ([(ce, .inl (cG, 121, .inl uv.1))] ++ (EW ea wa pf cn dp oc uv.2.1 uv.2.2 pt n ++ WW wa wd n)) tv.heap) (va_A ([(ce, .inl (cG, 121, .inl fc))] ++ (EW ea wa pf cn dp oc ic lf pt n ++ WW wa wd n)) sz)) 0 0 (va_A ([(ce, .inl (cG, 121, .inl fc))] ++ (EW ea wa pf cn dp oc ic lf pt n ++ WW wa wd n)) sz) := by
  refine Met.ofW (cc := cX6_search) (maxL := 7) (ret := (some .int)) (by decide) rfl ?_
  intro pM eM s mi9 argsM belowM methM cM sM B hml hv
  obtain ⟨rfl, hsz, hR0, hP, hK, hNw⟩ := hv
  have hx := B.exec
  have hb := B.bytes
  have hr := B.returns
  have hts := atoms_spec (ws := wsX6_search) B.pre
  have hown : s.vm.findClass RX6 = some mi9.cls := findClass_of_methodNamed B.named
  have hlocks := B.notSynchronized
  subst hsz
  have hna := q_na (RW := ([(ce, .inl (cG, 121, .inl fc))] ++ (EW ea wa pf cn dp oc ic lf pt n ++ WW wa wd n))) (RO := [(tr, .inr (5, [.ref sh])), (sh, .inr (4, [.ref ar, .int (nI n)])), (ar, .inl (cS, 40, .inr (.inr (.inr (.inr f))))), (g, .inr (1, [.ref gr])), (gr, .inr (2, [.ref ce])), (w0, .inr (7, [.long (lN v), .int (nI (wl v)), .long (lN (al v))]))]) hnd (by rw [List.map_append, List.map_append, EW_fst, WW_fst]; rfl) rfl hR0
  have hD := q_D (RW := ([(ce, .inl (cG, 121, .inl fc))] ++ (EW ea wa pf cn dp oc ic lf pt n ++ WW wa wd n))) (sz := s.heap.size) hnd (by rw [List.map_append, List.map_append, EW_fst, WW_fst]; rfl)
  have hnR : (([(tr, .inr (5, [.ref sh])), (sh, .inr (4, [.ref ar, .int (nI n)])), (ar, .inl (cS, 40, .inr (.inr (.inr (.inr f))))), (g, .inr (1, [.ref gr])), (gr, .inr (2, [.ref ce])), (w0, .inr (7, [.long (lN v), .int (nI (wl v)), .long (lN (al v))]))] : va_W).map (·.1)).Nodup := by rw [show ([(tr, .inr (5, [.ref sh])), (sh, .inr (4, [.ref ar, .int (nI n)])), (ar, .inl (cS, 40, .inr (.inr (.inr (.inr f))))), (g, .inr (1, [.ref gr])), (gr, .inr (2, [.ref ce])), (w0, .inr (7, [.long (lN v), .int (nI (wl v)), .long (lN (al v))]))] : va_W).map (·.1) = [tr, sh, ar, g, gr, w0] from rfl]; exact (List.nodup_append.mp hnd).2.1
  have hA : ∀ q : Nat, s.heap.size ≤ q → va_A ([(ce, .inl (cG, 121, .inl fc))] ++ (EW ea wa pf cn dp oc ic lf pt n ++ WW wa wd n)) s.heap.size q := fun q h => Or.inr h
  generalize hAe : va_A ([(ce, .inl (cG, 121, .inl fc))] ++ (EW ea wa pf cn dp oc ic lf pt n ++ WW wa wd n)) s.heap.size = A at hna hD hA ⊢
  have hS : va_S A s.heap s.heap [] := va_S.rf
  have hR := hR0
  have hP : va_P D vwCl ([(ce, .inl (cG, 121, .inl fc))] ++ (EW ea wa pf cn dp oc ic lf pt n ++ WW wa wd n)) s.heap := hP
  have hl := lv_entry ([.ref tr, .ref g, .ref w0, .int (nI k)]) (n := 7) (Nat.le_of_ble_eq_true rfl)
  rw [lg_entry_eq]
  generalize (lg_sl ([.ref tr, .ref g, .ref w0, .int (nI k)]) ++ List.replicate (7 - (lg_sl ([.ref tr, .ref g, .ref w0, .int (nI k)])).length) Slot.unset).toArray = ls at hl ⊢
  have hl : lv_has ls 7 [(0, .ref tr), (1, .ref g), (2, .ref w0), (3, .int (nI k))] := hl
  refine lv_iconst (v := nI 0) hx hb dX6_search_0 (by decide) ?_
  refine lv_istore (lv' := [(4, .int (nI 0)), (0, .ref tr), (1, .ref g), (2, .ref w0), (3, .int (nI k))]) hx hb dX6_search_1 hl (by decide) rfl (fun ls hl => ?_)
  refine lv_iconst (v := nI 0) hx hb dX6_search_3 (by decide) ?_
  refine lv_istore (lv' := [(5, .int (nI 0)), (4, .int (nI 0)), (0, .ref tr), (1, .ref g), (2, .ref w0), (3, .int (nI k))]) hx hb dX6_search_4 hl (by decide) rfl (fun ls hl => ?_)
  refine q_loop (fun (x : (Nat) × (Nat → Int32) × (Nat → Int32) × (Nat → Int32)) (H : Heap) (locs : List Loc) (ls : Array Slot) => match x with | (i, fc1, ic1, lf1) => (i ≤ n) ∧ (∀ j, j < i → ic1 j = (if CC j = true then 1 else 0) ∧ (CC j = true → lf1 j = nI (dst wd v j))) ∧ va_P D vwCl ([(ce, .inl (cG, 121, .inl fc1))] ++ (EW ea wa pf cn dp oc ic1 lf1 pt n ++ WW wa wd n)) H ∧ va_D A ([(ce, .inl (cG, 121, .inl fc1))] ++ (EW ea wa pf cn dp oc ic1 lf1 pt n ++ WW wa wd n)) ∧ va_S A s.heap H locs ∧ lv_has ls 7 [(5, .int (nI i)), (4, .int (nI (cnt CC i))), (0, .ref tr), (1, .ref g), (2, .ref w0), (3, .int (nI k))]) (fun (x : (Nat) × (Nat → Int32) × (Nat → Int32) × (Nat → Int32)) => match x with | (i, fc1, ic1, lf1) => n - i) (0, fc, ic, lf) ⟨(by omega), (fun j hj => by omega), hP, hD, hS, (lv_sub hl [0, 1, 2, 3, 4, 5] rfl)⟩ ?_
  clear hl
  clear hP hD hS
  rintro ⟨i, fc1, ic1, lf1⟩ H locs ls hI ih_6
  obtain ⟨hi, hC1, hP, hD, hS, hl⟩ := hI
  have hR := q_ro hR0 hna hS
  refine lv_iload hx hb dX6_search_6 (lv_at hl 0 rfl) ?_
  refine lv_aload_n hx hb dX6_search_8 rfl (lv_at hl 2 rfl) ?_
  refine va_get (D := D) (own := RX6) (ref := "FuzzyFens$Tree") (ci := 5) (v := .ref sh) (C := RX6) (T := TX6) (N := 1) hx hb hts iX6_search_X6 hown hK hR 0 rfl rfl 0 (by decide) (hts (.fieldLink RX6 12 "FuzzyFens$Tree" "nodes" "LFuzzyFens$Shelf;") (List.mem_of_getElem? (i := 1) rfl)) (fun _ h9 => h9) rfl dX6_search_9 ?_
  refine vp_callSi (W.runV (As := []) (rest := [.int (nI i)]) ⟨hx, hb, hml, hown, hts⟩ (c_X5_size (l := l) (D := D) (sh := sh) (ar := ar) (m := n) ) (cwV 0 hts gX6_search_X5_size rfl rfl rfl (by decide +kernel) ⟨Nat.le_of_ble_eq_true rfl, Nat.le_of_ble_eq_true rfl⟩) ⟨qP_blind, (va_recv hK hR (ci := 4) (q0 := 1) rfl rfl), (qP_of (hR.sub (ws' := [(sh, .inr (4, [.ref ar, .int (nI n)]))]) [1] rfl) (hK.sub (tys' := []) [] rfl) hNw)⟩ rfl rfl hl.1 rfl (lv_room (Nat.le_of_ble_eq_true rfl)) dX6_search_12 ⟨Nat.le_of_ble_eq_true rfl, Nat.le_of_ble_eq_true rfl⟩) (fun r_1 hr_1 => ?_)
  subst hr_1
  refine q_icmp_ge (a := i) (b := n) (tgt := 77) hx hb dX6_search_15 (by decide) (by omega) (by omega) (fun c_15 => ?_) (fun c_15 => ?_)
  · skip
    refine lv_iload hx hb dX6_search_77 (lv_at hl 1 rfl) ?_
    refine W.widen (k := 0) (n := 0) (Nat.le_of_ble_eq_true rfl) (Nat.le_of_ble_eq_true rfl) ?_
    exact W.iret (v := nI (cnt CC i)) hx hb hr (fun t9 ht hW => ⟨⟨nI (cnt CC i), (fc1, ic1, lf1), rfl, (by rw [show n = i by omega]), by show va_P D vwCl _ t9.heap; rw [ht]; exact hP⟩, hS.F ht⟩) hS.2.2 dX6_search_79
  · skip
    refine lv_aload_n hx hb dX6_search_18 rfl (lv_at hl 2 rfl) ?_
    refine va_get (D := D) (own := RX6) (ref := "FuzzyFens$Tree") (ci := 5) (v := .ref sh) (C := RX6) (T := TX6) (N := 1) hx hb hts iX6_search_X6 hown hK hR 0 rfl rfl 0 (by decide) (hts (.fieldLink RX6 12 "FuzzyFens$Tree" "nodes" "LFuzzyFens$Shelf;") (List.mem_of_getElem? (i := 1) rfl)) (fun _ h9 => h9) rfl dX6_search_19 ?_
    refine lv_iload hx hb dX6_search_22 (lv_at hl 0 rfl) ?_
    refine va_csq (W.runV (As := [.int (nI i)]) (rest := []) ⟨hx, hb, hml, hown, hts⟩ (c_X5_at (l := l) (D := D) (sh := sh) (ar := ar) (cS := cS) (f := f) (m := n) (i := i) (hi := by omega) (hm := hn40)) (cwV 1 hts gX6_search_X5_at rfl rfl rfl (by decide +kernel) ⟨Nat.le_of_ble_eq_true rfl, Nat.le_of_ble_eq_true rfl⟩) ⟨qP_blind, (va_recv hK hR (ci := 4) (q0 := 1) rfl rfl), (qP_of (hR.sub (ws' := [(sh, .inr (4, [.ref ar, .int (nI n)])), (ar, .inl (cS, 40, .inr (.inr (.inr (.inr f)))))]) [1, 2] rfl) (hK.sub (tys' := [(cS, .object "FuzzyFens$Entry")]) [1] rfl) hNw)⟩ rfl rfl hl.1 rfl (lv_room (Nat.le_of_ble_eq_true rfl)) dX6_search_24 ⟨Nat.le_of_ble_eq_true rfl, Nat.le_of_ble_eq_true rfl⟩) (fun r_2 hr_2 => ?_)
    subst hr_2
    have e9 : f i = some (ea i) := hfe _ (by omega)
    refine q_cvv (show va_rf (f i) = .ref (ea i) from (by rw [e9]; rfl)) ?_
    refine lv_astore (lv' := [(6, .ref (ea i)), (5, .int (nI i)), (4, .int (nI (cnt CC i))), (0, .ref tr), (1, .ref g), (2, .ref w0), (3, .int (nI k))]) hx hb dX6_search_27 hl (by decide) rfl (fun ls hl => ?_)
    refine lv_aload hx hb dX6_search_29 (lv_at hl 0 rfl) ?_
    refine lv_ifnull hx hb dX6_search_31 ?_
    refine q_opt (o := pi i) (fun e_34 => ?_) (fun q7 e_34 => ?_)
    · skip
      have hpf9 : pf i = none := by rw [hpi i (by omega), e_34]; rfl
      refine lv_aload hx hb dX6_search_34 (lv_at hl 0 rfl) ?_
      refine lv_aload hx hb dX6_search_36 (lv_at hl 0 rfl) ?_
      refine lv_iload_n hx hb dX6_search_38 rfl (lv_at hl 6 rfl) ?_
      refine vp_callSi (W.runS (As := [.ref (ea i), .int (nI k)]) (rest := [.ref (ea i)]) ⟨hx, hb, hml, hown, hts⟩ (c_X6_isEntered_0 (l := l) (D := D) (i := i) (k := k) (ea := ea) (wa := wa) (pf := pf) (cn := cn) (dp := dp) (oc := oc) (ic := ic1) (lf := lf1) (pt := pt) (wd := wd) (n := n) (hi := by omega) (hpf := hpf9)) (va_cwS 2 hts gX6_search_X6_isEntered rfl rfl rfl (by decide +kernel) ⟨Nat.le_of_ble_eq_true rfl, Nat.le_of_ble_eq_true rfl⟩) ⟨qP_blind, (qP_of (va_P.app (q_Pof (fun _ h => absurd h List.not_mem_nil)) (q_right hP)) (hK.sub (tys' := []) [] rfl) hNw)⟩ rfl rfl hl.1 rfl (lv_room (Nat.le_of_ble_eq_true rfl)) dX6_search_39 ⟨Nat.le_of_ble_eq_true rfl, Nat.le_of_ble_eq_true rfl⟩) (fun r_3 hr_3 => ?_)
      subst hr_3
      refine q_cvi (show (nI 1) = (if CC i = true then 1 else 0) from (by rw [if_pos ((hCq i (by omega)).mpr (fun q9 e9 => by rw [e_34] at e9; exact nomatch e9))]; rfl)) ?_
      refine va_putN (host := "FuzzyFens") (D := D) (ci := 0) (v := .int (if CC i = true then 1 else 0)) (ty := .boolean) (C := RX0) (T := TX0) (N := 8) hx hb hts iX6_search_X0 tyX0 tyX0_ok nmX0 hown hK hP hD hS (1 + i) (EW_ix (X := [(ce, .inl (cG, 121, .inl fc1))]) (Y := WW wa wd n) (ea := ea) (wa := wa) (pf := pf) (cn := cn) (dp := dp) (oc := oc) (ic := ic1) (lf := lf1) (pt := pt) (n := n) 1 rfl i (by omega)) rfl 5 (by decide) (va_Nw.use rfl (hNw.1 ("FuzzyFens$Tree", 59, "FuzzyFens$Entry", "isCompared", "Z") (List.mem_of_getElem? (i := 14) rfl))) (fun _ h9 => h9) rfl (by decide +kernel) (q_narb _) (q_fzb _) (Nat.le_of_ble_eq_true rfl) dX6_search_42 (fun H_4 locs_5 hP hD hS => ?_)
      have hP : va_P D vwCl ([(ce, .inl (cG, 121, .inl fc1))] ++ (EW ea wa pf cn dp oc (va_up ic1 i (if CC i = true then 1 else 0)) lf1 pt n ++ WW wa wd n)) H_4 := (congrArg (fun w9 => va_P D vwCl w9 H_4) (EW_ic (X := [(ce, .inl (cG, 121, .inl fc1))]) (Y := WW wa wd n) (ea := ea) (wa := wa) (pf := pf) (cn := cn) (dp := dp) (oc := oc) (ic := ic1) (lf := lf1) (pt := pt) (n := n) 1 rfl i (by omega) (if CC i = true then 1 else 0))).mp hP
      have hD : va_D A ([(ce, .inl (cG, 121, .inl fc1))] ++ (EW ea wa pf cn dp oc (va_up ic1 i (if CC i = true then 1 else 0)) lf1 pt n ++ WW wa wd n)) := (congrArg (fun w9 => va_D A w9) (EW_ic (X := [(ce, .inl (cG, 121, .inl fc1))]) (Y := WW wa wd n) (ea := ea) (wa := wa) (pf := pf) (cn := cn) (dp := dp) (oc := oc) (ic := ic1) (lf := lf1) (pt := pt) (n := n) 1 rfl i (by omega) (if CC i = true then 1 else 0))).mp hD
      have hR := q_ro hR0 hna hS
      refine lv_aload hx hb dX6_search_45 (lv_at hl 0 rfl) ?_
      refine va_getN (host := "FuzzyFens") (D := D) (own := RX6) (ref := "FuzzyFens$Entry") (ci := 0) (v := .int ((va_up ic1 i (if CC i = true then 1 else 0)) i)) (C := RX0) (T := TX0) (N := 8) hx hb hts iX6_search_X0 hown hK (E_at hP i (by omega)) 0 rfl rfl 5 (by decide) (va_Nw.use rfl (hNw.1 ("FuzzyFens$Tree", 59, "FuzzyFens$Entry", "isCompared", "Z") (List.mem_of_getElem? (i := 14) rfl))) (fun _ h9 => h9) rfl dX6_search_47 ?_
      refine q_cvi (show ((va_up ic1 i (if CC i = true then 1 else 0)) i) = (if CC i = true then 1 else 0) from (by rw [q_ups])) ?_
      refine q_ifb_eq (tgt := 71) hx hb dX6_search_50 (by decide) (fun c_50 => ?_) (fun c_50 => ?_)
      · skip
        refine lv_iinc (v := nI (i + 1)) (lv' := [(5, .int (nI (i + 1))), (6, .ref (ea i)), (4, .int (nI (cnt CC i))), (0, .ref tr), (1, .ref g), (2, .ref w0), (3, .int (nI k))]) hx hb dX6_search_71 hl (k := 1) rfl (q_inc (k := 1) (by omega)) (by decide) rfl (fun ls hl => ?_)
        refine lv_goto (tgt := 6) hx hb dX6_search_74 (by decide) ?_
        rw [show cnt CC i = cnt CC (i + 1) from (cnt_f c_50).symm] at hl
        exact ih_6 (i + 1, fc1, va_up ic1 i (if CC i = true then 1 else 0), lf1) _ _ _ ⟨(by omega), (fun j hj => by by_cases e : j = i; (rw [e]; exact ⟨by rw [q_ups], fun h9 => absurd h9 c_50⟩); (rw [q_upn e]; exact hC1 j (by omega))), hP, hD, hS, (lv_sub hl [0, 2, 3, 4, 5, 6] rfl)⟩ (by show n - (i + 1) < n - i; omega)
      · skip
        refine lv_aload hx hb dX6_search_53 (lv_at hl 0 rfl) ?_
        refine lv_aload_n hx hb dX6_search_55 rfl (lv_at hl 4 rfl) ?_
        refine lv_aload hx hb dX6_search_56 (lv_at hl 0 rfl) ?_
        refine va_getN (host := "FuzzyFens") (D := D) (own := RX6) (ref := "FuzzyFens$Entry") (ci := 0) (v := .ref (wa i)) (C := RX0) (T := TX0) (N := 8) hx hb hts iX6_search_X0 hown hK (E_at hP i (by omega)) 0 rfl rfl 0 (by decide) (va_Nw.use rfl (hNw.1 ("FuzzyFens$Tree", 26, "FuzzyFens$Entry", "word", "LFuzzyFens$Word;") (List.mem_of_getElem? (i := 7) rfl))) (fun _ h9 => h9) rfl dX6_search_58 ?_
        refine lv_aload_n hx hb dX6_search_61 rfl (lv_at hl 5 rfl) ?_
        have hF := va_free (wc := [(ce, .inl (cG, 121, .inl fc1))]) hD hS hA [0] rfl
        refine va_calli (va_runV (As := [.ref (wa i), .ref w0]) (rest := [.ref (ea i)]) ⟨hx, hb, hml, hown, hts⟩ (c_X1_lettersApart (l := l) (D := D) (g := g) (gr := gr) (ce := ce) (cG := cG) (f := fc1) (w := wa i) (v := w0) (a := wd i) (b := v) (sz := H_4.size) (hnd := (q_ndp (q_ndsw (q_ndg (l1 := [ce] ++ (rg ea n ++ rg wa n)) (l2 := [tr, sh, ar, g, gr, w0]) hD hnR hna (by rw [List.map_append, List.map_append, EW_fst, WW_fst]; rfl) rfl)) [(0, ce), (4, g), (5, gr), (7 + n + i, wa i), (6, w0)] (List.forall_mem_cons.mpr ⟨rfl, (List.forall_mem_cons.mpr ⟨rfl, (List.forall_mem_cons.mpr ⟨rfl, (List.forall_mem_cons.mpr ⟨(wa_ix 7 rfl i (by omega)), (List.forall_mem_cons.mpr ⟨rfl, (fun _ h => absurd h List.not_mem_nil)⟩)⟩)⟩)⟩)⟩) (by simp only [List.map_cons, List.map_nil, List.nodup_cons, List.mem_cons, List.not_mem_nil, or_false, not_or, List.nodup_nil, and_true, not_false_eq_true]; omega) rfl)) (hga := hg i (by omega)) (hgb := hgv)) (cwV 2 hts gX6_search_X1_lettersApart rfl rfl rfl (by decide +kernel) ⟨Nat.le_of_ble_eq_true rfl, Nat.le_of_ble_eq_true rfl⟩) ⟨qW_blind, (va_recv hK hR (ci := 1) (q0 := 3) rfl rfl), (qW_of (show va_P D vwCl [(g, .inr (1, [.ref gr])), (gr, .inr (2, [.ref ce])), (wa i, .inr (7, [.long (lN (wd i)), .int (nI (wl (wd i))), .long (lN (al (wd i)))])), (w0, .inr (7, [.long (lN v), .int (nI (wl v)), .long (lN (al v))]))] _ from (va_P.app (hR.sub (ws' := [(g, .inr (1, [.ref gr]))]) [3] rfl) (va_P.app (hR.sub (ws' := [(gr, .inr (2, [.ref ce]))]) [4] rfl) (va_P.app ((W_at hP i (by omega))) (hR.sub (ws' := [(w0, .inr (7, [.long (lN v), .int (nI (wl v)), .long (lN (al v))]))]) [5] rfl))))) (hP.sub (ws' := [(ce, .inl (cG, 121, .inl fc1))]) [0] rfl) (hK.sub (tys' := [(cG, .int)]) [0] rfl) hNw)⟩ rfl rfl hl.1 rfl (lv_room (Nat.le_of_ble_eq_true rfl)) dX6_search_62 ⟨Nat.le_of_ble_eq_true rfl, Nat.le_of_ble_eq_true rfl⟩) hS (fun q _ h => hF q h) hF (fun r_6 u_10 t_9 H_7 locs_8 ht hvm hr_6 hB hz1 hk1 hS => ?_)
        obtain ⟨f2_11, rfl⟩ : ∃ z, z = u_10 := ⟨_, rfl⟩
        replace hB : va_P D vwCl [(ce, .inl (cG, 121, .inl f2_11))] H_7 := by rw [← ht]; exact hB
        obtain ⟨hP, hD⟩ := q_join (wc := [(ce, .inl (cG, 121, .inl fc1))]) (w1 := [(ce, .inl (cG, 121, .inl f2_11))]) (ws' := [(ce, .inl (cG, 121, .inl f2_11))] ++ (EW ea wa pf cn dp oc (va_up ic1 i (if CC i = true then 1 else 0)) lf1 pt n ++ WW wa wd n)) [0] hP hD rfl rfl hk1 hB rfl
        have hR := q_ro hR0 hna hS
        subst hr_6
        refine q_cvi (show (nI (lev (ltz (wd i)) (ltz v) (wl (wd i)) (wl v))) = (nI (dst wd v i)) from (congrArg nI (lev_sym _ _ _ _))) ?_
        refine va_putN (host := "FuzzyFens") (D := D) (ci := 0) (v := .int (nI (dst wd v i))) (ty := .int) (C := RX0) (T := TX0) (N := 8) hx hb hts iX6_search_X0 tyX0 tyX0_ok nmX0 hown hK hP hD hS (1 + i) (EW_ix (X := [(ce, .inl (cG, 121, .inl f2_11))]) (Y := WW wa wd n) (ea := ea) (wa := wa) (pf := pf) (cn := cn) (dp := dp) (oc := oc) (ic := va_up ic1 i (if CC i = true then 1 else 0)) (lf := lf1) (pt := pt) (n := n) 1 rfl i (by omega)) rfl 6 (by decide) (va_Nw.use rfl (hNw.1 ("FuzzyFens$Tree", 63, "FuzzyFens$Entry", "lettersFromTyped", "I") (List.mem_of_getElem? (i := 15) rfl))) (fun _ h9 => h9) rfl (by decide +kernel) rfl rfl (Nat.le_of_ble_eq_true rfl) dX6_search_65 (fun H_12 locs_13 hP hD hS => ?_)
        have hP : va_P D vwCl ([(ce, .inl (cG, 121, .inl f2_11))] ++ (EW ea wa pf cn dp oc (va_up ic1 i (if CC i = true then 1 else 0)) (va_up lf1 i (nI (dst wd v i))) pt n ++ WW wa wd n)) H_12 := (congrArg (fun w9 => va_P D vwCl w9 H_12) (EW_lf (X := [(ce, .inl (cG, 121, .inl f2_11))]) (Y := WW wa wd n) (ea := ea) (wa := wa) (pf := pf) (cn := cn) (dp := dp) (oc := oc) (ic := va_up ic1 i (if CC i = true then 1 else 0)) (lf := lf1) (pt := pt) (n := n) 1 rfl i (by omega) (nI (dst wd v i)))).mp hP
        have hD : va_D A ([(ce, .inl (cG, 121, .inl f2_11))] ++ (EW ea wa pf cn dp oc (va_up ic1 i (if CC i = true then 1 else 0)) (va_up lf1 i (nI (dst wd v i))) pt n ++ WW wa wd n)) := (congrArg (fun w9 => va_D A w9) (EW_lf (X := [(ce, .inl (cG, 121, .inl f2_11))]) (Y := WW wa wd n) (ea := ea) (wa := wa) (pf := pf) (cn := cn) (dp := dp) (oc := oc) (ic := va_up ic1 i (if CC i = true then 1 else 0)) (lf := lf1) (pt := pt) (n := n) 1 rfl i (by omega) (nI (dst wd v i)))).mp hD
        have hR := q_ro hR0 hna hS
        refine lv_iinc (v := nI (cnt CC i + 1)) (lv' := [(4, .int (nI (cnt CC i + 1))), (6, .ref (ea i)), (5, .int (nI i)), (0, .ref tr), (1, .ref g), (2, .ref w0), (3, .int (nI k))]) hx hb dX6_search_68 hl (k := 2) rfl (q_inc (k := 1) (by omega)) (by decide) rfl (fun ls hl => ?_)
        refine lv_iinc (v := nI (i + 1)) (lv' := [(5, .int (nI (i + 1))), (4, .int (nI (cnt CC i + 1))), (6, .ref (ea i)), (0, .ref tr), (1, .ref g), (2, .ref w0), (3, .int (nI k))]) hx hb dX6_search_71 hl (k := 2) rfl (q_inc (k := 1) (by omega)) (by decide) rfl (fun ls hl => ?_)
        refine lv_goto (tgt := 6) hx hb dX6_search_74 (by decide) ?_
        rw [show cnt CC i + 1 = cnt CC (i + 1) from (cnt_t c_50).symm] at hl
        exact ih_6 (i + 1, f2_11, va_up ic1 i (if CC i = true then 1 else 0), va_up lf1 i (nI (dst wd v i))) _ _ _ ⟨(by omega), (fun j hj => by by_cases e : j = i; (rw [e]; exact ⟨by rw [q_ups], fun _ => by rw [q_ups]⟩); (rw [q_upn e, q_upn e]; exact hC1 j (by omega))), hP, hD, hS, (lv_sub hl [0, 1, 3, 4, 5, 6] rfl)⟩ (by show n - (i + 1) < n - i; omega)
    · skip
      have hpf9 : pf i = some (ea q7) := by rw [hpi i (by omega), e_34]; rfl
      have hq7 := hpn i q7 (by omega) e_34
      refine lv_aload hx hb dX6_search_34 (lv_at hl 0 rfl) ?_
      refine lv_aload hx hb dX6_search_36 (lv_at hl 0 rfl) ?_
      refine lv_iload_n hx hb dX6_search_38 rfl (lv_at hl 6 rfl) ?_
      refine vp_callSi (W.runS (As := [.ref (ea i), .int (nI k)]) (rest := [.ref (ea i)]) ⟨hx, hb, hml, hown, hts⟩ (c_X6_isEntered_p (l := l) (D := D) (i := i) (k := k) (q := q7) (C := CC q7) (dq := dst wd v q7) (ea := ea) (wa := wa) (pf := pf) (cn := cn) (dp := dp) (oc := oc) (ic := ic1) (lf := lf1) (pt := pt) (wd := wd) (n := n) (hi := by omega) (hq := by omega) (hpf := hpf9) (hic := (hC1 q7 hq7).1) (hlf := (hC1 q7 hq7).2) (hb1 := by have := hcb i (by omega); omega) (hb2 := by have := dst_20 (wd := wd) (gw_wl hgv) (gw_wl (hg q7 (by omega))); omega) (hk := by omega)) (va_cwS 2 hts gX6_search_X6_isEntered rfl rfl rfl (by decide +kernel) ⟨Nat.le_of_ble_eq_true rfl, Nat.le_of_ble_eq_true rfl⟩) ⟨qP_blind, (qP_of (va_P.app (q_Pof (fun _ h => absurd h List.not_mem_nil)) (q_right hP)) (hK.sub (tys' := []) [] rfl) hNw)⟩ rfl rfl hl.1 rfl (lv_room (Nat.le_of_ble_eq_true rfl)) dX6_search_39 ⟨Nat.le_of_ble_eq_true rfl, Nat.le_of_ble_eq_true rfl⟩) (fun r_14 hr_14 => ?_)
      subst hr_14
      refine q_cvi (show (if (CC q7) = true ∧ cn i ≤ (dst wd v q7) + k ∧ (dst wd v q7) ≤ cn i + k then 1 else 0) = (if CC i = true then 1 else 0) from (q_ifeq ⟨fun h9 => (hCq i (by omega)).mpr (fun q9 e9 => by rw [e_34] at e9; cases e9; exact h9), fun h9 => (hCq i (by omega)).mp h9 _ e_34⟩)) ?_
      refine va_putN (host := "FuzzyFens") (D := D) (ci := 0) (v := .int (if CC i = true then 1 else 0)) (ty := .boolean) (C := RX0) (T := TX0) (N := 8) hx hb hts iX6_search_X0 tyX0 tyX0_ok nmX0 hown hK hP hD hS (1 + i) (EW_ix (X := [(ce, .inl (cG, 121, .inl fc1))]) (Y := WW wa wd n) (ea := ea) (wa := wa) (pf := pf) (cn := cn) (dp := dp) (oc := oc) (ic := ic1) (lf := lf1) (pt := pt) (n := n) 1 rfl i (by omega)) rfl 5 (by decide) (va_Nw.use rfl (hNw.1 ("FuzzyFens$Tree", 59, "FuzzyFens$Entry", "isCompared", "Z") (List.mem_of_getElem? (i := 14) rfl))) (fun _ h9 => h9) rfl (by decide +kernel) (q_narb _) (q_fzb _) (Nat.le_of_ble_eq_true rfl) dX6_search_42 (fun H_15 locs_16 hP hD hS => ?_)
      have hP : va_P D vwCl ([(ce, .inl (cG, 121, .inl fc1))] ++ (EW ea wa pf cn dp oc (va_up ic1 i (if CC i = true then 1 else 0)) lf1 pt n ++ WW wa wd n)) H_15 := (congrArg (fun w9 => va_P D vwCl w9 H_15) (EW_ic (X := [(ce, .inl (cG, 121, .inl fc1))]) (Y := WW wa wd n) (ea := ea) (wa := wa) (pf := pf) (cn := cn) (dp := dp) (oc := oc) (ic := ic1) (lf := lf1) (pt := pt) (n := n) 1 rfl i (by omega) (if CC i = true then 1 else 0))).mp hP
      have hD : va_D A ([(ce, .inl (cG, 121, .inl fc1))] ++ (EW ea wa pf cn dp oc (va_up ic1 i (if CC i = true then 1 else 0)) lf1 pt n ++ WW wa wd n)) := (congrArg (fun w9 => va_D A w9) (EW_ic (X := [(ce, .inl (cG, 121, .inl fc1))]) (Y := WW wa wd n) (ea := ea) (wa := wa) (pf := pf) (cn := cn) (dp := dp) (oc := oc) (ic := ic1) (lf := lf1) (pt := pt) (n := n) 1 rfl i (by omega) (if CC i = true then 1 else 0))).mp hD
      have hR := q_ro hR0 hna hS
      refine lv_aload hx hb dX6_search_45 (lv_at hl 0 rfl) ?_
      refine va_getN (host := "FuzzyFens") (D := D) (own := RX6) (ref := "FuzzyFens$Entry") (ci := 0) (v := .int ((va_up ic1 i (if CC i = true then 1 else 0)) i)) (C := RX0) (T := TX0) (N := 8) hx hb hts iX6_search_X0 hown hK (E_at hP i (by omega)) 0 rfl rfl 5 (by decide) (va_Nw.use rfl (hNw.1 ("FuzzyFens$Tree", 59, "FuzzyFens$Entry", "isCompared", "Z") (List.mem_of_getElem? (i := 14) rfl))) (fun _ h9 => h9) rfl dX6_search_47 ?_
      refine q_cvi (show ((va_up ic1 i (if CC i = true then 1 else 0)) i) = (if CC i = true then 1 else 0) from (by rw [q_ups])) ?_
      refine q_ifb_eq (tgt := 71) hx hb dX6_search_50 (by decide) (fun c_50 => ?_) (fun c_50 => ?_)
      · skip
        refine lv_iinc (v := nI (i + 1)) (lv' := [(5, .int (nI (i + 1))), (6, .ref (ea i)), (4, .int (nI (cnt CC i))), (0, .ref tr), (1, .ref g), (2, .ref w0), (3, .int (nI k))]) hx hb dX6_search_71 hl (k := 1) rfl (q_inc (k := 1) (by omega)) (by decide) rfl (fun ls hl => ?_)
        refine lv_goto (tgt := 6) hx hb dX6_search_74 (by decide) ?_
        rw [show cnt CC i = cnt CC (i + 1) from (cnt_f c_50).symm] at hl
        exact ih_6 (i + 1, fc1, va_up ic1 i (if CC i = true then 1 else 0), lf1) _ _ _ ⟨(by omega), (fun j hj => by by_cases e : j = i; (rw [e]; exact ⟨by rw [q_ups], fun h9 => absurd h9 c_50⟩); (rw [q_upn e]; exact hC1 j (by omega))), hP, hD, hS, (lv_sub hl [0, 2, 3, 4, 5, 6] rfl)⟩ (by show n - (i + 1) < n - i; omega)
      · skip
        refine lv_aload hx hb dX6_search_53 (lv_at hl 0 rfl) ?_
        refine lv_aload_n hx hb dX6_search_55 rfl (lv_at hl 4 rfl) ?_
        refine lv_aload hx hb dX6_search_56 (lv_at hl 0 rfl) ?_
        refine va_getN (host := "FuzzyFens") (D := D) (own := RX6) (ref := "FuzzyFens$Entry") (ci := 0) (v := .ref (wa i)) (C := RX0) (T := TX0) (N := 8) hx hb hts iX6_search_X0 hown hK (E_at hP i (by omega)) 0 rfl rfl 0 (by decide) (va_Nw.use rfl (hNw.1 ("FuzzyFens$Tree", 26, "FuzzyFens$Entry", "word", "LFuzzyFens$Word;") (List.mem_of_getElem? (i := 7) rfl))) (fun _ h9 => h9) rfl dX6_search_58 ?_
        refine lv_aload_n hx hb dX6_search_61 rfl (lv_at hl 5 rfl) ?_
        have hF := va_free (wc := [(ce, .inl (cG, 121, .inl fc1))]) hD hS hA [0] rfl
        refine va_calli (va_runV (As := [.ref (wa i), .ref w0]) (rest := [.ref (ea i)]) ⟨hx, hb, hml, hown, hts⟩ (c_X1_lettersApart (l := l) (D := D) (g := g) (gr := gr) (ce := ce) (cG := cG) (f := fc1) (w := wa i) (v := w0) (a := wd i) (b := v) (sz := H_15.size) (hnd := (q_ndp (q_ndsw (q_ndg (l1 := [ce] ++ (rg ea n ++ rg wa n)) (l2 := [tr, sh, ar, g, gr, w0]) hD hnR hna (by rw [List.map_append, List.map_append, EW_fst, WW_fst]; rfl) rfl)) [(0, ce), (4, g), (5, gr), (7 + n + i, wa i), (6, w0)] (List.forall_mem_cons.mpr ⟨rfl, (List.forall_mem_cons.mpr ⟨rfl, (List.forall_mem_cons.mpr ⟨rfl, (List.forall_mem_cons.mpr ⟨(wa_ix 7 rfl i (by omega)), (List.forall_mem_cons.mpr ⟨rfl, (fun _ h => absurd h List.not_mem_nil)⟩)⟩)⟩)⟩)⟩) (by simp only [List.map_cons, List.map_nil, List.nodup_cons, List.mem_cons, List.not_mem_nil, or_false, not_or, List.nodup_nil, and_true, not_false_eq_true]; omega) rfl)) (hga := hg i (by omega)) (hgb := hgv)) (cwV 2 hts gX6_search_X1_lettersApart rfl rfl rfl (by decide +kernel) ⟨Nat.le_of_ble_eq_true rfl, Nat.le_of_ble_eq_true rfl⟩) ⟨qW_blind, (va_recv hK hR (ci := 1) (q0 := 3) rfl rfl), (qW_of (show va_P D vwCl [(g, .inr (1, [.ref gr])), (gr, .inr (2, [.ref ce])), (wa i, .inr (7, [.long (lN (wd i)), .int (nI (wl (wd i))), .long (lN (al (wd i)))])), (w0, .inr (7, [.long (lN v), .int (nI (wl v)), .long (lN (al v))]))] _ from (va_P.app (hR.sub (ws' := [(g, .inr (1, [.ref gr]))]) [3] rfl) (va_P.app (hR.sub (ws' := [(gr, .inr (2, [.ref ce]))]) [4] rfl) (va_P.app ((W_at hP i (by omega))) (hR.sub (ws' := [(w0, .inr (7, [.long (lN v), .int (nI (wl v)), .long (lN (al v))]))]) [5] rfl))))) (hP.sub (ws' := [(ce, .inl (cG, 121, .inl fc1))]) [0] rfl) (hK.sub (tys' := [(cG, .int)]) [0] rfl) hNw)⟩ rfl rfl hl.1 rfl (lv_room (Nat.le_of_ble_eq_true rfl)) dX6_search_62 ⟨Nat.le_of_ble_eq_true rfl, Nat.le_of_ble_eq_true rfl⟩) hS (fun q _ h => hF q h) hF (fun r_17 u_21 t_20 H_18 locs_19 ht hvm hr_17 hB hz1 hk1 hS => ?_)
        obtain ⟨f2_22, rfl⟩ : ∃ z, z = u_21 := ⟨_, rfl⟩
        replace hB : va_P D vwCl [(ce, .inl (cG, 121, .inl f2_22))] H_18 := by rw [← ht]; exact hB
        obtain ⟨hP, hD⟩ := q_join (wc := [(ce, .inl (cG, 121, .inl fc1))]) (w1 := [(ce, .inl (cG, 121, .inl f2_22))]) (ws' := [(ce, .inl (cG, 121, .inl f2_22))] ++ (EW ea wa pf cn dp oc (va_up ic1 i (if CC i = true then 1 else 0)) lf1 pt n ++ WW wa wd n)) [0] hP hD rfl rfl hk1 hB rfl
        have hR := q_ro hR0 hna hS
        subst hr_17
        refine q_cvi (show (nI (lev (ltz (wd i)) (ltz v) (wl (wd i)) (wl v))) = (nI (dst wd v i)) from (congrArg nI (lev_sym _ _ _ _))) ?_
        refine va_putN (host := "FuzzyFens") (D := D) (ci := 0) (v := .int (nI (dst wd v i))) (ty := .int) (C := RX0) (T := TX0) (N := 8) hx hb hts iX6_search_X0 tyX0 tyX0_ok nmX0 hown hK hP hD hS (1 + i) (EW_ix (X := [(ce, .inl (cG, 121, .inl f2_22))]) (Y := WW wa wd n) (ea := ea) (wa := wa) (pf := pf) (cn := cn) (dp := dp) (oc := oc) (ic := va_up ic1 i (if CC i = true then 1 else 0)) (lf := lf1) (pt := pt) (n := n) 1 rfl i (by omega)) rfl 6 (by decide) (va_Nw.use rfl (hNw.1 ("FuzzyFens$Tree", 63, "FuzzyFens$Entry", "lettersFromTyped", "I") (List.mem_of_getElem? (i := 15) rfl))) (fun _ h9 => h9) rfl (by decide +kernel) rfl rfl (Nat.le_of_ble_eq_true rfl) dX6_search_65 (fun H_23 locs_24 hP hD hS => ?_)
        have hP : va_P D vwCl ([(ce, .inl (cG, 121, .inl f2_22))] ++ (EW ea wa pf cn dp oc (va_up ic1 i (if CC i = true then 1 else 0)) (va_up lf1 i (nI (dst wd v i))) pt n ++ WW wa wd n)) H_23 := (congrArg (fun w9 => va_P D vwCl w9 H_23) (EW_lf (X := [(ce, .inl (cG, 121, .inl f2_22))]) (Y := WW wa wd n) (ea := ea) (wa := wa) (pf := pf) (cn := cn) (dp := dp) (oc := oc) (ic := va_up ic1 i (if CC i = true then 1 else 0)) (lf := lf1) (pt := pt) (n := n) 1 rfl i (by omega) (nI (dst wd v i)))).mp hP
        have hD : va_D A ([(ce, .inl (cG, 121, .inl f2_22))] ++ (EW ea wa pf cn dp oc (va_up ic1 i (if CC i = true then 1 else 0)) (va_up lf1 i (nI (dst wd v i))) pt n ++ WW wa wd n)) := (congrArg (fun w9 => va_D A w9) (EW_lf (X := [(ce, .inl (cG, 121, .inl f2_22))]) (Y := WW wa wd n) (ea := ea) (wa := wa) (pf := pf) (cn := cn) (dp := dp) (oc := oc) (ic := va_up ic1 i (if CC i = true then 1 else 0)) (lf := lf1) (pt := pt) (n := n) 1 rfl i (by omega) (nI (dst wd v i)))).mp hD
        have hR := q_ro hR0 hna hS
        refine lv_iinc (v := nI (cnt CC i + 1)) (lv' := [(4, .int (nI (cnt CC i + 1))), (6, .ref (ea i)), (5, .int (nI i)), (0, .ref tr), (1, .ref g), (2, .ref w0), (3, .int (nI k))]) hx hb dX6_search_68 hl (k := 2) rfl (q_inc (k := 1) (by omega)) (by decide) rfl (fun ls hl => ?_)
        refine lv_iinc (v := nI (i + 1)) (lv' := [(5, .int (nI (i + 1))), (4, .int (nI (cnt CC i + 1))), (6, .ref (ea i)), (0, .ref tr), (1, .ref g), (2, .ref w0), (3, .int (nI k))]) hx hb dX6_search_71 hl (k := 2) rfl (q_inc (k := 1) (by omega)) (by decide) rfl (fun ls hl => ?_)
        refine lv_goto (tgt := 6) hx hb dX6_search_74 (by decide) ?_
        rw [show cnt CC i + 1 = cnt CC (i + 1) from (cnt_t c_50).symm] at hl
        exact ih_6 (i + 1, f2_22, va_up ic1 i (if CC i = true then 1 else 0), va_up lf1 i (nI (dst wd v i))) _ _ _ ⟨(by omega), (fun j hj => by by_cases e : j = i; (rw [e]; exact ⟨by rw [q_ups], fun _ => by rw [q_ups]⟩); (rw [q_upn e, q_upn e]; exact hC1 j (by omega))), hP, hD, hS, (lv_sub hl [0, 1, 3, 4, 5, 6] rfl)⟩ (by show n - (i + 1) < n - i; omega)

set_option maxRecDepth 20000 in
theorem iX6_plant_X0 : ∀ w ∈ wsX00, w ∈ wsX6_plant := by decide +kernel
set_option maxRecDepth 20000 in
theorem iX6_plant_X6 : ∀ w ∈ wsX60, w ∈ wsX6_plant := by decide +kernel
set_option maxHeartbeats 4000000 in
set_option maxRecDepth 100000 in
/-- Tree.plant -/
theorem c_X6_plant (l : Launch) (D : va_G) (sz : Nat) (tr : Nat) (sh : Nat) (ar : Nat) (cS : ClassId) (f : Nat → Option Nat) (g : Nat) (gr : Nat) (ce : Nat) (cG : ClassId) (fc : Nat → Int32) (w0 : Nat) (v : Nat) (ea : Nat → Nat) (wa : Nat → Nat) (pf : Nat → Option Nat) (cn : Nat → Nat) (dp : Nat → Nat) (oc : Nat → Nat) (ic : Nat → Int32) (lf : Nat → Int32) (pt : Nat → Int32) (wd : Nat → Nat) (n : Nat) (pi : Nat → Option Nat) (hnd : ([sh, ar, ce] ++ ([tr, g, gr, w0] ++ (rg ea n ++ rg wa n))).Nodup) (hfe : ∀ j, j < n → f j = some (ea j)) (hn40 : n ≤ 40) (hg : ∀ k, k < n → gw (wd k)) (hgv : gw v) (hn9 : n < 40) (hpi : ∀ k, k < n → pf k = (pi k).map ea) (hpn : ∀ k i, k < n → pi k = some i → i < k) (hcb : ∀ k, k < n → cn k ≤ 20) (hinj : ∀ i j, i < n → j < n → ea i = ea j → i = j) : Met l yX6_plant wsX6_plant { frames := 4, cells := 1, slots := 8, locals := 94 } (va_Pc [.ref tr, .ref g, .ref w0] (qW D sz ([(tr, .inr (5, [.ref sh])), (g, .inr (1, [.ref gr])), (gr, .inr (2, [.ref ce])), (w0, .inr (7, [.long (lN v), .int (nI (wl v)), .long (lN (al v))]))] ++ (EW ea wa pf cn dp oc ic lf pt n ++ WW wa wd n)) [(sh, .inr (4, [.ref ar, .int (nI n)])), (ar, .inl (cS, 40, .inr (.inr (.inr (.inr f))))), (ce, .inl (cG, 121, .inl fc))] [(cS, .object "FuzzyFens$Entry"), (cG, .int)])) (va_Qq (fun (rv : Option Nat) (uv : (Nat → Option Nat) × (Nat → Int32) × (Nat) × (Option Nat) × (Nat) × (Nat)) => rv = some uv.2.2.1 ∧ (∀ j, j < n → uv.1 j = some (ea j)) ∧ uv.1 n = some uv.2.2.1 ∧ ((n = 0 ∧ uv.2.2.2.1 = none ∧ uv.2.2.2.2.1 = 0 ∧ uv.2.2.2.2.2 = 0) ∨ (0 < n ∧ uv.2.2.2.1 = some (ea (plw (chf wd pi cn v n) n 0)) ∧ uv.2.2.2.2.1 = dst wd v (plw (chf wd pi cn v n) n 0) ∧ uv.2.2.2.2.2 = dp (plw (chf wd pi cn v n) n 0) + 1))) (fun (uv : (Nat → Option Nat) × (Nat → Int32) × (Nat) × (Option Nat) × (Nat) × (Nat)) (tv : State) => va_P D vwCl ([(sh, .inr (4, [.ref ar, .int (nI (n + 1))])), (ar, .inl (cS, 40, .inr (.inr (.inr (.inr uv.1))))), (ce, .inl (cG, 121, .inl uv.2.1)), (uv.2.2.1, .inr (0, [.ref w0, va_rf uv.2.2.2.1, .int (nI uv.2.2.2.2.1), .int (nI uv.2.2.2.2.2), .int 0, .int 0, .int 0, .int 0]))]) tv.heap ∧ va_D (va_A [(sh, .inr (4, [.ref ar, .int (nI n)])), (ar, .inl (cS, 40, .inr (.inr (.inr (.inr f))))), (ce, .inl (cG, 121, .inl fc))] sz) ([(sh, .inr (4, [.ref ar, .int (nI (n + 1))])), (ar, .inl (cS, 40, .inr (.inr (.inr (.inr uv.1))))), (ce, .inl (cG, 121, .inl uv.2.1)), (uv.2.2.1, .inr (0, [.ref w0, va_rf uv.2.2.2.1, .int (nI uv.2.2.2.2.1), .int (nI uv.2.2.2.2.2), .int 0, .int 0, .int 0, .int 0]))]) ∧ va_K D vwCl [] tv) (va_A [(sh, .inr (4, [.ref ar, .int (nI n)])), (ar, .inl (cS, 40, .inr (.inr (.inr (.inr f))))), (ce, .inl (cG, 121, .inl fc))] sz)) 1 8 (va_A [(sh, .inr (4, [.ref ar, .int (nI n)])), (ar, .inl (cS, 40, .inr (.inr (.inr (.inr f))))), (ce, .inl (cG, 121, .inl fc))] sz) := by
  refine Met.ofW (cc := cX6_plant) (maxL := 7) (ret := (some (.object "FuzzyFens$Entry"))) (by decide) rfl ?_
  intro pM eM s mi9 argsM belowM methM cM sM B hml hv
  obtain ⟨rfl, hsz, hR0, hP, hK, hNw⟩ := hv
  have hx := B.exec
  have hb := B.bytes
  have hr := B.returns
  have hts := atoms_spec (ws := wsX6_plant) B.pre
  have hown : s.vm.findClass RX6 = some mi9.cls := findClass_of_methodNamed B.named
  have hlocks := B.notSynchronized
  subst hsz
  have hna := q_na (RW := [(sh, .inr (4, [.ref ar, .int (nI n)])), (ar, .inl (cS, 40, .inr (.inr (.inr (.inr f))))), (ce, .inl (cG, 121, .inl fc))]) (RO := [(tr, .inr (5, [.ref sh])), (g, .inr (1, [.ref gr])), (gr, .inr (2, [.ref ce])), (w0, .inr (7, [.long (lN v), .int (nI (wl v)), .long (lN (al v))]))] ++ (EW ea wa pf cn dp oc ic lf pt n ++ WW wa wd n)) hnd rfl (by rw [List.map_append, List.map_append, EW_fst, WW_fst]; rfl) hR0
  have hD := q_D (RW := [(sh, .inr (4, [.ref ar, .int (nI n)])), (ar, .inl (cS, 40, .inr (.inr (.inr (.inr f))))), (ce, .inl (cG, 121, .inl fc))]) (sz := s.heap.size) hnd rfl
  have hnR : (([(tr, .inr (5, [.ref sh])), (g, .inr (1, [.ref gr])), (gr, .inr (2, [.ref ce])), (w0, .inr (7, [.long (lN v), .int (nI (wl v)), .long (lN (al v))]))] ++ (EW ea wa pf cn dp oc ic lf pt n ++ WW wa wd n) : va_W).map (·.1)).Nodup := by rw [show ([(tr, .inr (5, [.ref sh])), (g, .inr (1, [.ref gr])), (gr, .inr (2, [.ref ce])), (w0, .inr (7, [.long (lN v), .int (nI (wl v)), .long (lN (al v))]))] ++ (EW ea wa pf cn dp oc ic lf pt n ++ WW wa wd n) : va_W).map (·.1) = ([tr, g, gr, w0] ++ (rg ea n ++ rg wa n)) from (by rw [List.map_append, List.map_append, EW_fst, WW_fst]; rfl)]; exact (List.nodup_append.mp hnd).2.1
  have hA : ∀ q : Nat, s.heap.size ≤ q → va_A [(sh, .inr (4, [.ref ar, .int (nI n)])), (ar, .inl (cS, 40, .inr (.inr (.inr (.inr f))))), (ce, .inl (cG, 121, .inl fc))] s.heap.size q := fun q h => Or.inr h
  generalize hAe : va_A [(sh, .inr (4, [.ref ar, .int (nI n)])), (ar, .inl (cS, 40, .inr (.inr (.inr (.inr f))))), (ce, .inl (cG, 121, .inl fc))] s.heap.size = A at hna hD hA ⊢
  have hS : va_S A s.heap s.heap [] := va_S.rf
  have hR := hR0
  have hP : va_P D vwCl [(sh, .inr (4, [.ref ar, .int (nI n)])), (ar, .inl (cS, 40, .inr (.inr (.inr (.inr f))))), (ce, .inl (cG, 121, .inl fc))] s.heap := hP
  have hl := lv_entry ([.ref tr, .ref g, .ref w0]) (n := 7) (Nat.le_of_ble_eq_true rfl)
  rw [lg_entry_eq]
  generalize (lg_sl ([.ref tr, .ref g, .ref w0]) ++ List.replicate (7 - (lg_sl ([.ref tr, .ref g, .ref w0])).length) Slot.unset).toArray = ls at hl ⊢
  have hl : lv_has ls 7 [(0, .ref tr), (1, .ref g), (2, .ref w0)] := hl
  have hC := chf_lt (wd := wd) (pa := pi) (nm := cn) (a := v) (n := n) hpn
  refine lv_null hx hb dX6_plant_0 ?_
  refine lv_astore_nN (lv' := [(3, .null), (0, .ref tr), (1, .ref g), (2, .ref w0)]) hx hb dX6_plant_1 rfl hl (by decide) rfl (fun ls hl => ?_)
  refine q_cut 10 (fun (x : (Option Nat)) (Hc : Heap) (Lc : List Loc) (ls : Array Slot) (st : List Value) => match x with | y9 => ((n = 0 ∧ y9 = none) ∨ (0 < n ∧ y9 = some 0)) ∧ s.heap = Hc ∧ [] = Lc ∧ lv_has ls 7 [(3, .null), (0, .ref tr), (1, .ref g), (2, .ref w0)] ∧ [va_rf (Option.map ea y9)] = st) ?_ ?_
  · clear hl
    rintro y9 Hc Lc ls st hI
    obtain ⟨hy9, rfl, rfl, hl, rfl⟩ := hI
    refine q_astore (lv' := [(4, va_rf (Option.map ea y9)), (3, .null), (0, .ref tr), (1, .ref g), (2, .ref w0)]) hx hb dX6_plant_10 hl (by decide) rfl (fun ls hl => ?_)
    refine lv_iconst (v := nI 0) hx hb dX6_plant_12 (by decide) ?_
    refine lv_istore (lv' := [(5, .int (nI 0)), (4, va_rf (Option.map ea y9)), (3, .null), (0, .ref tr), (1, .ref g), (2, .ref w0)]) hx hb dX6_plant_13 hl (by decide) (by cases y9 <;> rfl) (fun ls hl => ?_)
    refine lv_iconst (v := nI 0) hx hb dX6_plant_15 (by decide) ?_
    refine lv_istore (lv' := [(6, .int (nI 0)), (5, .int (nI 0)), (4, va_rf (Option.map ea y9)), (3, .null), (0, .ref tr), (1, .ref g), (2, .ref w0)]) hx hb dX6_plant_16 hl (by decide) rfl (fun ls hl => ?_)
    refine q_loop (fun (x : (Nat) × (Option Nat) × (Option Nat) × (Nat) × (Nat → Int32)) (H : Heap) (locs : List Loc) (ls : Array Slot) => match x with | (i, y, p9, d9, fc1) => (i ≤ n) ∧ (∀ q, y = some q → q < n ∧ i ≤ q ∧ plw (chf wd pi cn v n) n q = plw (chf wd pi cn v n) n 0) ∧ (y = none → (n = 0 ∧ p9 = none ∧ d9 = 0) ∨ (0 < n ∧ p9 = some (plw (chf wd pi cn v n) n 0) ∧ d9 = dst wd v (plw (chf wd pi cn v n) n 0))) ∧ va_P D vwCl [(sh, .inr (4, [.ref ar, .int (nI n)])), (ar, .inl (cS, 40, .inr (.inr (.inr (.inr f))))), (ce, .inl (cG, 121, .inl fc1))] H ∧ va_D A [(sh, .inr (4, [.ref ar, .int (nI n)])), (ar, .inl (cS, 40, .inr (.inr (.inr (.inr f))))), (ce, .inl (cG, 121, .inl fc1))] ∧ va_S A s.heap H locs ∧ lv_has ls 7 [(6, .int (nI i)), (5, .int (nI d9)), (4, va_rf (Option.map ea y)), (3, va_rf (Option.map ea p9)), (0, .ref tr), (1, .ref g), (2, .ref w0)]) (fun (x : (Nat) × (Option Nat) × (Option Nat) × (Nat) × (Nat → Int32)) => match x with | (i, y, p9, d9, fc1) => plm n y) (0, y9, none, 0, fc) ⟨(by omega), (by intro q hq; rcases hy9 with ⟨_, e⟩ | ⟨h0, e⟩; (rw [e] at hq; exact nomatch hq); (rw [e] at hq; cases hq; exact ⟨h0, Nat.le_refl _, rfl⟩)), (fun hn => by rcases hy9 with ⟨h0, e⟩ | ⟨h0, e⟩; (exact Or.inl ⟨h0, rfl, rfl⟩); (rw [e] at hn; exact nomatch hn)), hP, hD, hS, (lv_sub hl [0, 1, 2, 3, 4, 5, 6] rfl)⟩ ?_
    clear hl
    clear hP hD hS
    rintro ⟨i, y, p9, d9, fc1⟩ H locs ls hI ih_18
    obtain ⟨hi, hy1, hy2, hP, hD, hS, hl⟩ := hI
    have hR := q_ro hR0 hna hS
    refine lv_iload hx hb dX6_plant_18 (lv_at hl 0 rfl) ?_
    refine lv_bipush (v := nI 40) hx hb dX6_plant_20 (by decide) ?_
    refine q_icmp_ge (a := i) (b := 40) (tgt := 59) hx hb dX6_plant_22 (by decide) (by omega) (by omega) (fun c_22 => False.elim (by omega)) (fun c_22 => ?_)
    refine q_opt (o := y) (fun e_25 => ?_) (fun q5 e_25 => ?_)
    · skip
      have hl : lv_has ls 7 [(6, .int (nI i)), (5, .int (nI d9)), (4, .null), (3, va_rf (Option.map ea p9)), (0, .ref tr), (1, .ref g), (2, .ref w0)] := by rw [e_25] at hl; exact hl
      refine lv_aloadN hx hb dX6_plant_25 (lv_at hl 2 rfl) ?_
      refine lv_ifnullN (tgt := 59) hx hb dX6_plant_27 (by decide) ?_
      have hfin := hy2 e_25
      refine q_opt (o := p9) (fun e_59 => ?_) (fun q9 e_59 => ?_)
      · skip
        have hz : n = 0 ∧ d9 = 0 := by rcases hfin with h9 | h9; (exact ⟨h9.1, h9.2.2⟩); (rw [e_59] at h9; exact nomatch h9.2.1)
        have hl : lv_has ls 7 [(6, .int (nI i)), (5, .int (nI d9)), (4, .null), (3, .null), (0, .ref tr), (1, .ref g), (2, .ref w0)] := by rw [e_59] at hl; exact hl
        have hfin := hy2 e_25
        refine va_new (D := D) (ci := 0) (fs := [.null, .null, .int 0, .int 0, .int 0, .int 0, .int 0, .int 0]) (C := RX0) (T := TX0) (N := 8) hx hb hts iX6_plant_X0 tyX0 tyX0_ok hown (hts (.classLink RX6 27 RX0) (List.mem_of_getElem? (i := 2) rfl)) (hts (.instantiable RX0 8) (List.mem_of_getElem? (i := 3) rfl)) (hts (.initialized RX0) (List.mem_of_getElem? (i := 4) rfl)) hK hP hD hS hA rfl (fun j9 h9 => by rcases (show j9 = 0 ∨ j9 = 1 ∨ j9 = 2 ∨ j9 = 3 ∨ j9 = 4 ∨ j9 = 5 ∨ j9 = 6 ∨ j9 = 7 by omega) with rfl | rfl | rfl | rfl | rfl | rfl | rfl | rfl <;> rfl) (Nat.le_of_ble_eq_true rfl) (Nat.le_of_ble_eq_true rfl) dX6_plant_59 (fun q_1 H_2 hP hD hS => ?_)
        have hP : va_P D vwCl [(sh, .inr (4, [.ref ar, .int (nI n)])), (ar, .inl (cS, 40, .inr (.inr (.inr (.inr f))))), (ce, .inl (cG, 121, .inl fc1)), (q_1, .inr (0, [.null, .null, .int 0, .int 0, .int 0, .int 0, .int 0, .int 0]))] H_2 := hP
        have hD : va_D A [(sh, .inr (4, [.ref ar, .int (nI n)])), (ar, .inl (cS, 40, .inr (.inr (.inr (.inr f))))), (ce, .inl (cG, 121, .inl fc1)), (q_1, .inr (0, [.null, .null, .int 0, .int 0, .int 0, .int 0, .int 0, .int 0]))] := hD
        have hR := q_ro hR0 hna hS
        refine lv_dup hx hb dX6_plant_62 rfl ?_
        refine lv_aload_n hx hb dX6_plant_63 rfl (lv_at hl 6 rfl) ?_
        refine lv_aload_nN hx hb dX6_plant_64 rfl (lv_at hl 3 rfl) ?_
        refine lv_iload hx hb dX6_plant_65 (lv_at hl 1 rfl) ?_
        have hF := va_free (wc := [(q_1, .inr (0, [.null, .null, .int 0, .int 0, .int 0, .int 0, .int 0, .int 0]))]) hD hS hA [3] rfl
        refine va_callv (va_runI (As := [.ref w0, .null, .int (nI d9)]) (rest := [.ref q_1]) ⟨hx, hb, hml, hown, hts⟩ (c_X0_init_n (l := l) (D := D) (e9 := q_1) (w9 := w0) (c9 := d9) (sz := H_2.size) (hnd := (q_nds (q_ndl (q_ndg (l1 := [sh, ar, ce, q_1]) (l2 := ([tr, g, gr, w0] ++ (rg ea n ++ rg wa n))) hD hnR hna rfl (by rw [List.map_append, List.map_append, EW_fst, WW_fst]; rfl))) [3] rfl rfl)) ) (cwI 3 hts ggX6_plant_X0_init rfl rfl rfl (hts (.initialized RX0) (List.mem_of_getElem? (i := 4) rfl)) (hts (.methodLink RX6 48 yX0_init) (List.mem_of_getElem? (i := 60) rfl)) (hts (.instanceMethod yX0_init) (List.mem_of_getElem? (i := 61) rfl)) rfl (by decide +kernel) ⟨Nat.le_of_ble_eq_true rfl, Nat.le_of_ble_eq_true rfl⟩) ⟨qW_blind, (qW_of (q_Pof (fun _ h => absurd h List.not_mem_nil)) (hP.sub (ws' := [(q_1, .inr (0, [.null, .null, .int 0, .int 0, .int 0, .int 0, .int 0, .int 0]))]) [3] rfl) (hK.sub (tys' := []) [] rfl) hNw)⟩ rfl rfl hl.1 rfl (lv_room (Nat.le_of_ble_eq_true rfl)) dX6_plant_67 ⟨Nat.le_of_ble_eq_true rfl, Nat.le_of_ble_eq_true rfl⟩) hS (fun q _ h => hF q h) hF (fun u_7 t_6 H_4 locs_5 ht hvm hr_3 hB hz1 hk1 hS => ?_)
        replace hB : va_P D vwCl [(q_1, .inr (0, [.ref w0, .null, .int (nI d9), .int (nI 0), .int 0, .int 0, .int 0, .int 0]))] H_4 := by rw [← ht]; exact hB
        obtain ⟨hP, hD⟩ := q_join (wc := [(q_1, .inr (0, [.null, .null, .int 0, .int 0, .int 0, .int 0, .int 0, .int 0]))]) (w1 := [(q_1, .inr (0, [.ref w0, .null, .int (nI d9), .int (nI 0), .int 0, .int 0, .int 0, .int 0]))]) (ws' := [(sh, .inr (4, [.ref ar, .int (nI n)])), (ar, .inl (cS, 40, .inr (.inr (.inr (.inr f))))), (ce, .inl (cG, 121, .inl fc1)), (q_1, .inr (0, [.ref w0, .null, .int (nI d9), .int (nI 0), .int 0, .int 0, .int 0, .int 0]))]) [3] hP hD rfl rfl hk1 hB rfl
        have hR := q_ro hR0 hna hS
        refine lv_astore (lv' := [(6, .ref q_1), (5, .int (nI d9)), (4, .null), (3, .null), (0, .ref tr), (1, .ref g), (2, .ref w0)]) hx hb dX6_plant_70 hl (by decide) rfl (fun ls hl => ?_)
        obtain ⟨ea2, hea2, hea3⟩ : ∃ f9 : Nat → Nat, f9 n = q_1 ∧ ∀ k, k < n → f9 k = ea k := ⟨va_up ea n q_1, q_ups, fun k hk => q_upn (by omega)⟩
        subst hea2
        have hP : va_P D vwCl [(sh, .inr (4, [.ref ar, .int (nI n)])), (ar, .inl (cS, 40, .inr (.inr (.inr (.inr f))))), (ce, .inl (cG, 121, .inl fc1)), (ea2 n, .inr (0, [.ref w0, .null, .int (nI d9), .int (nI 0), .int 0, .int 0, .int 0, .int 0]))] H_4 := hP
        have hD : va_D A [(sh, .inr (4, [.ref ar, .int (nI n)])), (ar, .inl (cS, 40, .inr (.inr (.inr (.inr f))))), (ce, .inl (cG, 121, .inl fc1)), (ea2 n, .inr (0, [.ref w0, .null, .int (nI d9), .int (nI 0), .int 0, .int 0, .int 0, .int 0]))] := hD
        refine lv_aload_n hx hb dX6_plant_72 rfl (lv_at hl 4 rfl) ?_
        refine va_get (D := D) (own := RX6) (ref := "FuzzyFens$Tree") (ci := 5) (v := .ref sh) (C := RX6) (T := TX6) (N := 1) hx hb hts iX6_plant_X6 hown hK hR 0 rfl rfl 0 (by decide) (hts (.fieldLink RX6 12 "FuzzyFens$Tree" "nodes" "LFuzzyFens$Shelf;") (List.mem_of_getElem? (i := 1) rfl)) (fun _ h9 => h9) rfl dX6_plant_73 ?_
        refine lv_aload hx hb dX6_plant_76 (lv_at hl 0 rfl) ?_
        have hF := va_free (wc := [(sh, .inr (4, [.ref ar, .int (nI n)])), (ar, .inl (cS, 40, .inr (.inr (.inr (.inr f)))))]) hD hS hA [0, 1] rfl
        refine va_callv (va_runV (As := [.ref (ea2 n)]) (rest := []) ⟨hx, hb, hml, hown, hts⟩ (c_X5_append (l := l) (D := D) (sh := sh) (ar := ar) (cS := cS) (f := f) (m := n) (ki := (fun j => j)) (ke := n) (ea := ea2) (wa := (va_up wa n w0)) (pf := (va_up pf n (none))) (cn := (va_up cn n d9)) (dp := (va_up dp n 0)) (oc := (va_up oc n 0)) (ic := (va_up ic n (0 : Int32))) (lf := (va_up lf n (0 : Int32))) (pt := (va_up pt n (0 : Int32))) (wd := (va_up wd n v)) (n := n + 1) (sz := H_4.size) (hnd := (q_ndgr hea3 (q_ndt (a' := [sh, ar]) (b' := [ea2 n, w0]) (q_ndg (l1 := [sh, ar, ce, ea2 n]) (l2 := ([tr, g, gr, w0] ++ (rg ea n ++ rg wa n))) hD hnR hna rfl (by rw [List.map_append, List.map_append, EW_fst, WW_fst]; rfl)) [0, 1, 3, 7] rfl rfl))) (hm := hn9) (hke := by omega) (hf := (fun j hj => by rw [hfe j hj, hea3 j hj])) (hki := (fun j hj => by show j < n + 1; omega))) (cwV 1 hts gX6_plant_X5_append rfl rfl rfl (by decide +kernel) ⟨Nat.le_of_ble_eq_true rfl, Nat.le_of_ble_eq_true rfl⟩) ⟨qW_blind, (va_recv hK hP (ci := 4) (q0 := 0) rfl rfl), (qW_of (va_P.app (q_Pof (fun _ h => absurd h List.not_mem_nil)) (q_poolP (p9 := none) (o9 := 0) hea3 (q_right hR) (hP.sub (ws' := [(ea2 n, .inr (0, [.ref w0, .null, .int (nI d9), .int (nI 0), .int 0, .int 0, .int 0, .int 0]))]) [3] rfl) (hR.sub (ws' := [(w0, .inr (7, [.long (lN v), .int (nI (wl v)), .long (lN (al v))]))]) [3] rfl))) (hP.sub (ws' := [(sh, .inr (4, [.ref ar, .int (nI n)])), (ar, .inl (cS, 40, .inr (.inr (.inr (.inr f)))))]) [0, 1] rfl) (hK.sub (tys' := [(cS, .object "FuzzyFens$Entry")]) [0] rfl) hNw)⟩ rfl rfl hl.1 rfl (lv_room (Nat.le_of_ble_eq_true rfl)) dX6_plant_78 ⟨Nat.le_of_ble_eq_true rfl, Nat.le_of_ble_eq_true rfl⟩) hS (fun q _ h => hF q h) hF (fun u_12 t_11 H_9 locs_10 ht hvm hr_8 hB hz1 hk1 hS => ?_)
        obtain ⟨f3, rfl⟩ : ∃ z, z = u_12 := ⟨_, rfl⟩
        replace hB : va_P D vwCl [(sh, .inr (4, [.ref ar, .int (nI (n + 1))])), (ar, .inl (cS, 40, .inr (.inr (.inr (.inr f3)))))] H_9 := by rw [← ht]; exact hB
        obtain ⟨hP, hD⟩ := q_join (wc := [(sh, .inr (4, [.ref ar, .int (nI n)])), (ar, .inl (cS, 40, .inr (.inr (.inr (.inr f)))))]) (w1 := [(sh, .inr (4, [.ref ar, .int (nI (n + 1))])), (ar, .inl (cS, 40, .inr (.inr (.inr (.inr f3)))))]) (ws' := [(sh, .inr (4, [.ref ar, .int (nI (n + 1))])), (ar, .inl (cS, 40, .inr (.inr (.inr (.inr f3))))), (ce, .inl (cG, 121, .inl fc1)), (ea2 n, .inr (0, [.ref w0, .null, .int (nI d9), .int (nI 0), .int 0, .int 0, .int 0, .int 0]))]) [0, 1] hP hD rfl rfl hk1 hB rfl
        have hR := q_ro hR0 hna hS
        have hap := hr_8
        refine lv_aload hx hb dX6_plant_81 (lv_at hl 0 rfl) ?_
        refine W.widen (k := 1) (n := 8) (Nat.le_of_ble_eq_true rfl) (Nat.le_of_ble_eq_true rfl) ?_
        exact W.aret (v := .ref (ea2 n)) hx hb hr (Or.inl ⟨_, rfl⟩) (Or.inr ⟨_, rfl⟩) (fun t9 ht hW => ⟨⟨some (ea2 n), (f3, fc1, (ea2 n), none, d9, 0), rfl, ⟨rfl, (fun j hj => by have h9 := hap j (by omega); unfold insF at h9; rw [if_pos hj, hea3 j hj] at h9; exact h9), (by have h9 := hap n (by omega); unfold insF at h9; rw [if_neg (by omega), if_pos rfl] at h9; exact h9), (Or.inl ⟨hz.1, rfl, hz.2, rfl⟩)⟩, by show va_P D vwCl _ t9.heap; rw [ht]; exact hP, hD, (va_K.moved hW.alike (hK.sub (tys' := []) [] rfl))⟩, hS.F ht⟩) hS.2.2 dX6_plant_83
      · skip
        have hs9 : 0 < n ∧ q9 = plw (chf wd pi cn v n) n 0 ∧ d9 = dst wd v (plw (chf wd pi cn v n) n 0) := by rcases hfin with h9 | h9; (rw [e_59] at h9; exact nomatch h9.2.1); (rw [e_59] at h9; exact ⟨h9.1, Option.some.inj h9.2.1, h9.2.2⟩)
        have hq9 : q9 < n := by rw [hs9.2.1]; exact plw_lt hC n 0 hs9.1
        have hl : lv_has ls 7 [(6, .int (nI i)), (5, .int (nI d9)), (4, .null), (3, .ref (ea q9)), (0, .ref tr), (1, .ref g), (2, .ref w0)] := by rw [e_59] at hl; exact hl
        have hfin := hy2 e_25
        refine va_new (D := D) (ci := 0) (fs := [.null, .null, .int 0, .int 0, .int 0, .int 0, .int 0, .int 0]) (C := RX0) (T := TX0) (N := 8) hx hb hts iX6_plant_X0 tyX0 tyX0_ok hown (hts (.classLink RX6 27 RX0) (List.mem_of_getElem? (i := 2) rfl)) (hts (.instantiable RX0 8) (List.mem_of_getElem? (i := 3) rfl)) (hts (.initialized RX0) (List.mem_of_getElem? (i := 4) rfl)) hK hP hD hS hA rfl (fun j9 h9 => by rcases (show j9 = 0 ∨ j9 = 1 ∨ j9 = 2 ∨ j9 = 3 ∨ j9 = 4 ∨ j9 = 5 ∨ j9 = 6 ∨ j9 = 7 by omega) with rfl | rfl | rfl | rfl | rfl | rfl | rfl | rfl <;> rfl) (Nat.le_of_ble_eq_true rfl) (Nat.le_of_ble_eq_true rfl) dX6_plant_59 (fun q_13 H_14 hP hD hS => ?_)
        have hP : va_P D vwCl [(sh, .inr (4, [.ref ar, .int (nI n)])), (ar, .inl (cS, 40, .inr (.inr (.inr (.inr f))))), (ce, .inl (cG, 121, .inl fc1)), (q_13, .inr (0, [.null, .null, .int 0, .int 0, .int 0, .int 0, .int 0, .int 0]))] H_14 := hP
        have hD : va_D A [(sh, .inr (4, [.ref ar, .int (nI n)])), (ar, .inl (cS, 40, .inr (.inr (.inr (.inr f))))), (ce, .inl (cG, 121, .inl fc1)), (q_13, .inr (0, [.null, .null, .int 0, .int 0, .int 0, .int 0, .int 0, .int 0]))] := hD
        have hR := q_ro hR0 hna hS
        refine lv_dup hx hb dX6_plant_62 rfl ?_
        refine lv_aload_n hx hb dX6_plant_63 rfl (lv_at hl 6 rfl) ?_
        refine lv_aload_n hx hb dX6_plant_64 rfl (lv_at hl 3 rfl) ?_
        refine lv_iload hx hb dX6_plant_65 (lv_at hl 1 rfl) ?_
        have hF := va_free (wc := [(q_13, .inr (0, [.null, .null, .int 0, .int 0, .int 0, .int 0, .int 0, .int 0]))]) hD hS hA [3] rfl
        refine va_callv (va_runI (As := [.ref w0, .ref (ea q9), .int (nI d9)]) (rest := [.ref q_13]) ⟨hx, hb, hml, hown, hts⟩ (c_X0_init_p (l := l) (D := D) (e9 := q_13) (w9 := w0) (c9 := d9) (q := q9) (ea := ea) (wa := wa) (pf := pf) (cn := cn) (dp := dp) (oc := oc) (ic := ic) (lf := lf) (pt := pt) (wd := wd) (n := n) (sz := H_14.size) (hnd := (q_ndt (q_ndg (l1 := [sh, ar, ce, q_13]) (l2 := ([tr, g, gr, w0] ++ (rg ea n ++ rg wa n))) hD hnR hna rfl (by rw [List.map_append, List.map_append, EW_fst, WW_fst]; rfl)) [3] rfl rfl)) (hq := hq9)) (cwI 3 hts ggX6_plant_X0_init rfl rfl rfl (hts (.initialized RX0) (List.mem_of_getElem? (i := 4) rfl)) (hts (.methodLink RX6 48 yX0_init) (List.mem_of_getElem? (i := 60) rfl)) (hts (.instanceMethod yX0_init) (List.mem_of_getElem? (i := 61) rfl)) rfl (by decide +kernel) ⟨Nat.le_of_ble_eq_true rfl, Nat.le_of_ble_eq_true rfl⟩) ⟨qW_blind, (qW_of (va_P.app (q_Pof (fun _ h => absurd h List.not_mem_nil)) (q_right hR)) (hP.sub (ws' := [(q_13, .inr (0, [.null, .null, .int 0, .int 0, .int 0, .int 0, .int 0, .int 0]))]) [3] rfl) (hK.sub (tys' := []) [] rfl) hNw)⟩ rfl rfl hl.1 rfl (lv_room (Nat.le_of_ble_eq_true rfl)) dX6_plant_67 ⟨Nat.le_of_ble_eq_true rfl, Nat.le_of_ble_eq_true rfl⟩) hS (fun q _ h => hF q h) hF (fun u_19 t_18 H_16 locs_17 ht hvm hr_15 hB hz1 hk1 hS => ?_)
        replace hB : va_P D vwCl [(q_13, .inr (0, [.ref w0, .ref (ea q9), .int (nI d9), .int (nI (dp q9 + 1)), .int 0, .int 0, .int 0, .int 0]))] H_16 := by rw [← ht]; exact hB
        obtain ⟨hP, hD⟩ := q_join (wc := [(q_13, .inr (0, [.null, .null, .int 0, .int 0, .int 0, .int 0, .int 0, .int 0]))]) (w1 := [(q_13, .inr (0, [.ref w0, .ref (ea q9), .int (nI d9), .int (nI (dp q9 + 1)), .int 0, .int 0, .int 0, .int 0]))]) (ws' := [(sh, .inr (4, [.ref ar, .int (nI n)])), (ar, .inl (cS, 40, .inr (.inr (.inr (.inr f))))), (ce, .inl (cG, 121, .inl fc1)), (q_13, .inr (0, [.ref w0, .ref (ea q9), .int (nI d9), .int (nI (dp q9 + 1)), .int 0, .int 0, .int 0, .int 0]))]) [3] hP hD rfl rfl hk1 hB rfl
        have hR := q_ro hR0 hna hS
        refine lv_astore (lv' := [(6, .ref q_13), (5, .int (nI d9)), (4, .null), (3, .ref (ea q9)), (0, .ref tr), (1, .ref g), (2, .ref w0)]) hx hb dX6_plant_70 hl (by decide) rfl (fun ls hl => ?_)
        obtain ⟨ea2, hea2, hea3⟩ : ∃ f9 : Nat → Nat, f9 n = q_13 ∧ ∀ k, k < n → f9 k = ea k := ⟨va_up ea n q_13, q_ups, fun k hk => q_upn (by omega)⟩
        subst hea2
        have hP : va_P D vwCl [(sh, .inr (4, [.ref ar, .int (nI n)])), (ar, .inl (cS, 40, .inr (.inr (.inr (.inr f))))), (ce, .inl (cG, 121, .inl fc1)), (ea2 n, .inr (0, [.ref w0, .ref (ea q9), .int (nI d9), .int (nI (dp q9 + 1)), .int 0, .int 0, .int 0, .int 0]))] H_16 := hP
        have hD : va_D A [(sh, .inr (4, [.ref ar, .int (nI n)])), (ar, .inl (cS, 40, .inr (.inr (.inr (.inr f))))), (ce, .inl (cG, 121, .inl fc1)), (ea2 n, .inr (0, [.ref w0, .ref (ea q9), .int (nI d9), .int (nI (dp q9 + 1)), .int 0, .int 0, .int 0, .int 0]))] := hD
        refine lv_aload_n hx hb dX6_plant_72 rfl (lv_at hl 4 rfl) ?_
        refine va_get (D := D) (own := RX6) (ref := "FuzzyFens$Tree") (ci := 5) (v := .ref sh) (C := RX6) (T := TX6) (N := 1) hx hb hts iX6_plant_X6 hown hK hR 0 rfl rfl 0 (by decide) (hts (.fieldLink RX6 12 "FuzzyFens$Tree" "nodes" "LFuzzyFens$Shelf;") (List.mem_of_getElem? (i := 1) rfl)) (fun _ h9 => h9) rfl dX6_plant_73 ?_
        refine lv_aload hx hb dX6_plant_76 (lv_at hl 0 rfl) ?_
        have hF := va_free (wc := [(sh, .inr (4, [.ref ar, .int (nI n)])), (ar, .inl (cS, 40, .inr (.inr (.inr (.inr f)))))]) hD hS hA [0, 1] rfl
        refine va_callv (va_runV (As := [.ref (ea2 n)]) (rest := []) ⟨hx, hb, hml, hown, hts⟩ (c_X5_append (l := l) (D := D) (sh := sh) (ar := ar) (cS := cS) (f := f) (m := n) (ki := (fun j => j)) (ke := n) (ea := ea2) (wa := (va_up wa n w0)) (pf := (va_up pf n (some (ea q9)))) (cn := (va_up cn n d9)) (dp := (va_up dp n (dp q9 + 1))) (oc := (va_up oc n 0)) (ic := (va_up ic n (0 : Int32))) (lf := (va_up lf n (0 : Int32))) (pt := (va_up pt n (0 : Int32))) (wd := (va_up wd n v)) (n := n + 1) (sz := H_16.size) (hnd := (q_ndgr hea3 (q_ndt (a' := [sh, ar]) (b' := [ea2 n, w0]) (q_ndg (l1 := [sh, ar, ce, ea2 n]) (l2 := ([tr, g, gr, w0] ++ (rg ea n ++ rg wa n))) hD hnR hna rfl (by rw [List.map_append, List.map_append, EW_fst, WW_fst]; rfl)) [0, 1, 3, 7] rfl rfl))) (hm := hn9) (hke := by omega) (hf := (fun j hj => by rw [hfe j hj, hea3 j hj])) (hki := (fun j hj => by show j < n + 1; omega))) (cwV 1 hts gX6_plant_X5_append rfl rfl rfl (by decide +kernel) ⟨Nat.le_of_ble_eq_true rfl, Nat.le_of_ble_eq_true rfl⟩) ⟨qW_blind, (va_recv hK hP (ci := 4) (q0 := 0) rfl rfl), (qW_of (va_P.app (q_Pof (fun _ h => absurd h List.not_mem_nil)) (q_poolP (p9 := some (ea q9)) (o9 := 0) hea3 (q_right hR) (hP.sub (ws' := [(ea2 n, .inr (0, [.ref w0, .ref (ea q9), .int (nI d9), .int (nI (dp q9 + 1)), .int 0, .int 0, .int 0, .int 0]))]) [3] rfl) (hR.sub (ws' := [(w0, .inr (7, [.long (lN v), .int (nI (wl v)), .long (lN (al v))]))]) [3] rfl))) (hP.sub (ws' := [(sh, .inr (4, [.ref ar, .int (nI n)])), (ar, .inl (cS, 40, .inr (.inr (.inr (.inr f)))))]) [0, 1] rfl) (hK.sub (tys' := [(cS, .object "FuzzyFens$Entry")]) [0] rfl) hNw)⟩ rfl rfl hl.1 rfl (lv_room (Nat.le_of_ble_eq_true rfl)) dX6_plant_78 ⟨Nat.le_of_ble_eq_true rfl, Nat.le_of_ble_eq_true rfl⟩) hS (fun q _ h => hF q h) hF (fun u_24 t_23 H_21 locs_22 ht hvm hr_20 hB hz1 hk1 hS => ?_)
        obtain ⟨f3, rfl⟩ : ∃ z, z = u_24 := ⟨_, rfl⟩
        replace hB : va_P D vwCl [(sh, .inr (4, [.ref ar, .int (nI (n + 1))])), (ar, .inl (cS, 40, .inr (.inr (.inr (.inr f3)))))] H_21 := by rw [← ht]; exact hB
        obtain ⟨hP, hD⟩ := q_join (wc := [(sh, .inr (4, [.ref ar, .int (nI n)])), (ar, .inl (cS, 40, .inr (.inr (.inr (.inr f)))))]) (w1 := [(sh, .inr (4, [.ref ar, .int (nI (n + 1))])), (ar, .inl (cS, 40, .inr (.inr (.inr (.inr f3)))))]) (ws' := [(sh, .inr (4, [.ref ar, .int (nI (n + 1))])), (ar, .inl (cS, 40, .inr (.inr (.inr (.inr f3))))), (ce, .inl (cG, 121, .inl fc1)), (ea2 n, .inr (0, [.ref w0, .ref (ea q9), .int (nI d9), .int (nI (dp q9 + 1)), .int 0, .int 0, .int 0, .int 0]))]) [0, 1] hP hD rfl rfl hk1 hB rfl
        have hR := q_ro hR0 hna hS
        have hap := hr_20
        refine lv_aload hx hb dX6_plant_81 (lv_at hl 0 rfl) ?_
        refine W.widen (k := 1) (n := 8) (Nat.le_of_ble_eq_true rfl) (Nat.le_of_ble_eq_true rfl) ?_
        exact W.aret (v := .ref (ea2 n)) hx hb hr (Or.inl ⟨_, rfl⟩) (Or.inr ⟨_, rfl⟩) (fun t9 ht hW => ⟨⟨some (ea2 n), (f3, fc1, (ea2 n), (some (ea q9)), d9, (dp q9 + 1)), rfl, ⟨rfl, (fun j hj => by have h9 := hap j (by omega); unfold insF at h9; rw [if_pos hj, hea3 j hj] at h9; exact h9), (by have h9 := hap n (by omega); unfold insF at h9; rw [if_neg (by omega), if_pos rfl] at h9; exact h9), (Or.inr ⟨hs9.1, by rw [← hs9.2.1], hs9.2.2, by rw [← hs9.2.1]⟩)⟩, by show va_P D vwCl _ t9.heap; rw [ht]; exact hP, hD, (va_K.moved hW.alike (hK.sub (tys' := []) [] rfl))⟩, hS.F ht⟩) hS.2.2 dX6_plant_83
    · skip
      have hq := hy1 _ e_25
      have hl : lv_has ls 7 [(6, .int (nI i)), (5, .int (nI d9)), (4, .ref (ea q5)), (3, va_rf (Option.map ea p9)), (0, .ref tr), (1, .ref g), (2, .ref w0)] := by rw [e_25] at hl; exact hl
      refine lv_aload hx hb dX6_plant_25 (lv_at hl 2 rfl) ?_
      refine lv_ifnull hx hb dX6_plant_27 ?_
      refine lv_aload hx hb dX6_plant_30 (lv_at hl 2 rfl) ?_
      refine lv_astore_n (lv' := [(3, .ref (ea q5)), (6, .int (nI i)), (5, .int (nI d9)), (4, .ref (ea q5)), (0, .ref tr), (1, .ref g), (2, .ref w0)]) hx hb dX6_plant_32 rfl hl (by decide) rfl (fun ls hl => ?_)
      refine lv_aload_n hx hb dX6_plant_33 rfl (lv_at hl 5 rfl) ?_
      refine lv_aload_n hx hb dX6_plant_34 rfl (lv_at hl 0 rfl) ?_
      refine va_getN (host := "FuzzyFens") (D := D) (own := RX6) (ref := "FuzzyFens$Entry") (ci := 0) (v := .ref (wa q5)) (C := RX0) (T := TX0) (N := 8) hx hb hts iX6_plant_X0 hown hK (E_at hR q5 (by omega)) 0 rfl rfl 0 (by decide) (va_Nw.use rfl (hNw.1 ("FuzzyFens$Tree", 26, "FuzzyFens$Entry", "word", "LFuzzyFens$Word;") (List.mem_of_getElem? (i := 7) rfl))) (fun _ h9 => h9) rfl dX6_plant_35 ?_
      refine lv_aload_n hx hb dX6_plant_38 rfl (lv_at hl 6 rfl) ?_
      have hF := va_free (wc := [(ce, .inl (cG, 121, .inl fc1))]) hD hS hA [2] rfl
      refine va_calli (va_runV (As := [.ref (wa q5), .ref w0]) (rest := []) ⟨hx, hb, hml, hown, hts⟩ (c_X1_lettersApart (l := l) (D := D) (g := g) (gr := gr) (ce := ce) (cG := cG) (f := fc1) (w := wa q5) (v := w0) (a := wd q5) (b := v) (sz := H.size) (hnd := (q_ndp hnd [(2, ce), (4, g), (5, gr), (7 + n + q5, wa q5), (6, w0)] (List.forall_mem_cons.mpr ⟨rfl, (List.forall_mem_cons.mpr ⟨rfl, (List.forall_mem_cons.mpr ⟨rfl, (List.forall_mem_cons.mpr ⟨(wa_ix 7 rfl q5 (by omega)), (List.forall_mem_cons.mpr ⟨rfl, (fun _ h => absurd h List.not_mem_nil)⟩)⟩)⟩)⟩)⟩) (by simp only [List.map_cons, List.map_nil, List.nodup_cons, List.mem_cons, List.not_mem_nil, or_false, not_or, List.nodup_nil, and_true, not_false_eq_true]; omega) rfl)) (hga := hg q5 (by omega)) (hgb := hgv)) (cwV 2 hts gX6_plant_X1_lettersApart rfl rfl rfl (by decide +kernel) ⟨Nat.le_of_ble_eq_true rfl, Nat.le_of_ble_eq_true rfl⟩) ⟨qW_blind, (va_recv hK hR (ci := 1) (q0 := 1) rfl rfl), (qW_of (show va_P D vwCl [(g, .inr (1, [.ref gr])), (gr, .inr (2, [.ref ce])), (wa q5, .inr (7, [.long (lN (wd q5)), .int (nI (wl (wd q5))), .long (lN (al (wd q5)))])), (w0, .inr (7, [.long (lN v), .int (nI (wl v)), .long (lN (al v))]))] _ from (va_P.app (hR.sub (ws' := [(g, .inr (1, [.ref gr]))]) [1] rfl) (va_P.app (hR.sub (ws' := [(gr, .inr (2, [.ref ce]))]) [2] rfl) (va_P.app ((W_at hR q5 (by omega))) (hR.sub (ws' := [(w0, .inr (7, [.long (lN v), .int (nI (wl v)), .long (lN (al v))]))]) [3] rfl))))) (hP.sub (ws' := [(ce, .inl (cG, 121, .inl fc1))]) [2] rfl) (hK.sub (tys' := [(cG, .int)]) [1] rfl) hNw)⟩ rfl rfl hl.1 rfl (lv_room (Nat.le_of_ble_eq_true rfl)) dX6_plant_39 ⟨Nat.le_of_ble_eq_true rfl, Nat.le_of_ble_eq_true rfl⟩) hS (fun q _ h => hF q h) hF (fun r_25 u_29 t_28 H_26 locs_27 ht hvm hr_25 hB hz1 hk1 hS => ?_)
      obtain ⟨f2_30, rfl⟩ : ∃ z, z = u_29 := ⟨_, rfl⟩
      replace hB : va_P D vwCl [(ce, .inl (cG, 121, .inl f2_30))] H_26 := by rw [← ht]; exact hB
      obtain ⟨hP, hD⟩ := q_join (wc := [(ce, .inl (cG, 121, .inl fc1))]) (w1 := [(ce, .inl (cG, 121, .inl f2_30))]) (ws' := [(sh, .inr (4, [.ref ar, .int (nI n)])), (ar, .inl (cS, 40, .inr (.inr (.inr (.inr f))))), (ce, .inl (cG, 121, .inl f2_30))]) [2] hP hD rfl rfl hk1 hB rfl
      have hR := q_ro hR0 hna hS
      subst hr_25
      refine q_cvi (show (nI (lev (ltz (wd q5)) (ltz v) (wl (wd q5)) (wl v))) = (nI (dst wd v q5)) from (congrArg nI (lev_sym _ _ _ _))) ?_
      have hd20 := dst_20 (wd := wd) (gw_wl hgv) (gw_wl (hg q5 (by omega)))
      refine lv_istore (lv' := [(5, .int (nI (dst wd v q5))), (3, .ref (ea q5)), (6, .int (nI i)), (4, .ref (ea q5)), (0, .ref tr), (1, .ref g), (2, .ref w0)]) hx hb dX6_plant_42 hl (by decide) rfl (fun ls hl => ?_)
      refine lv_aload_n hx hb dX6_plant_44 rfl (lv_at hl 4 rfl) ?_
      refine lv_aload_n hx hb dX6_plant_45 rfl (lv_at hl 1 rfl) ?_
      refine lv_iload hx hb dX6_plant_46 (lv_at hl 0 rfl) ?_
      refine va_csq (W.runV (As := [.ref (ea q5), .int (nI (dst wd v q5))]) (rest := []) ⟨hx, hb, hml, hown, hts⟩ (c_X6_child (l := l) (D := D) (tr := tr) (sh := sh) (ar := ar) (cS := cS) (f := f) (pi := pi) (q := q5) (num := dst wd v q5) (ea := ea) (wa := wa) (pf := pf) (cn := cn) (dp := dp) (oc := oc) (ic := ic) (lf := lf) (pt := pt) (wd := wd) (n := n) (hfe := hfe) (hn40 := hn40) (hq := by omega) (hnum := by omega) (hcn := (fun k hk => by have := hcb k hk; omega)) (hpi := hpi) (hpn := (fun k i hk h9 => by have := hpn k i hk h9; omega)) (hinj := hinj)) (cwV 2 hts gX6_plant_X6_child rfl rfl rfl (by decide +kernel) ⟨Nat.le_of_ble_eq_true rfl, Nat.le_of_ble_eq_true rfl⟩) ⟨qP_blind, (va_recv hK hR (ci := 5) (q0 := 0) rfl rfl), (qP_of (va_P.app (show va_P D vwCl [(tr, .inr (5, [.ref sh])), (sh, .inr (4, [.ref ar, .int (nI n)])), (ar, .inl (cS, 40, .inr (.inr (.inr (.inr f)))))] _ from (va_P.app (hR.sub (ws' := [(tr, .inr (5, [.ref sh]))]) [0] rfl) (va_P.app (hP.sub (ws' := [(sh, .inr (4, [.ref ar, .int (nI n)]))]) [0] rfl) (hP.sub (ws' := [(ar, .inl (cS, 40, .inr (.inr (.inr (.inr f)))))]) [1] rfl)))) (q_right hR)) (hK.sub (tys' := [(cS, .object "FuzzyFens$Entry")]) [0] rfl) hNw)⟩ rfl rfl hl.1 rfl (lv_room (Nat.le_of_ble_eq_true rfl)) dX6_plant_48 ⟨Nat.le_of_ble_eq_true rfl, Nat.le_of_ble_eq_true rfl⟩) (fun r_31 hr_31 => ?_)
      subst hr_31
      refine q_cvv (show va_rf ((ffi (fun k => decide (pi k = some q5 ∧ cn k = (dst wd v q5))) n).map ea) = va_rf (Option.map ea (chf wd pi cn v n q5)) from rfl) ?_
      refine q_astore (lv' := [(4, va_rf (Option.map ea (chf wd pi cn v n q5))), (5, .int (nI (dst wd v q5))), (3, .ref (ea q5)), (6, .int (nI i)), (0, .ref tr), (1, .ref g), (2, .ref w0)]) hx hb dX6_plant_51 hl (by decide) rfl (fun ls hl => ?_)
      refine lv_iinc (v := nI (i + 1)) (lv' := [(6, .int (nI (i + 1))), (4, va_rf (Option.map ea (chf wd pi cn v n q5))), (5, .int (nI (dst wd v q5))), (3, .ref (ea q5)), (0, .ref tr), (1, .ref g), (2, .ref w0)]) hx hb dX6_plant_53 hl (k := 3) rfl (q_inc (k := 1) (by omega)) (by decide) rfl (fun ls hl => ?_)
      refine lv_goto (tgt := 18) hx hb dX6_plant_56 (by decide) ?_
      exact ih_18 (i + 1, chf wd pi cn v n q5, some q5, dst wd v q5, f2_30) _ _ _ ⟨(by omega), (fun c9 h9 => ⟨(hC _ _ h9).2, by have := (hC _ _ h9).1; omega, (plw_go hC h9).trans hq.2.2⟩), (fun h9 => Or.inr ⟨by omega, by rw [← hq.2.2, plw_none h9], by rw [← hq.2.2, plw_none h9]⟩), hP, hD, hS, (lv_sub hl [0, 2, 1, 3, 4, 5, 6] rfl)⟩ (by show plm n (chf wd pi cn v n q5) < plm n y; (rw [e_25]; exact plm_dec hC hq.1))
  · intro hcut_10
    rcases Nat.eq_zero_or_pos n with hn0 | hn0
    · skip
      refine lv_aload_n hx hb dX6_plant_2 rfl (lv_at hl 1 rfl) ?_
      refine va_get (D := D) (own := RX6) (ref := "FuzzyFens$Tree") (ci := 5) (v := .ref sh) (C := RX6) (T := TX6) (N := 1) hx hb hts iX6_plant_X6 hown hK hR 0 rfl rfl 0 (by decide) (hts (.fieldLink RX6 12 "FuzzyFens$Tree" "nodes" "LFuzzyFens$Shelf;") (List.mem_of_getElem? (i := 1) rfl)) (fun _ h9 => h9) rfl dX6_plant_3 ?_
      refine lv_iconst (v := nI 0) hx hb dX6_plant_6 (by decide) ?_
      refine va_csq (W.runV (As := [.int (nI 0)]) (rest := []) ⟨hx, hb, hml, hown, hts⟩ (c_X5_at_hi (l := l) (D := D) (sh := sh) (ar := ar) (cS := cS) (f := f) (m := n) (x9 := (nI 0)) (hhi := by rw [hn0]; decide)) (cwV 1 hts gX6_plant_X5_at rfl rfl rfl (by decide +kernel) ⟨Nat.le_of_ble_eq_true rfl, Nat.le_of_ble_eq_true rfl⟩) ⟨qP_blind, (va_recv hK hP (ci := 4) (q0 := 0) rfl rfl), (qP_of (hP.sub (ws' := [(sh, .inr (4, [.ref ar, .int (nI n)])), (ar, .inl (cS, 40, .inr (.inr (.inr (.inr f)))))]) [0, 1] rfl) (hK.sub (tys' := [(cS, .object "FuzzyFens$Entry")]) [0] rfl) hNw)⟩ rfl rfl hl.1 rfl (lv_room (Nat.le_of_ble_eq_true rfl)) dX6_plant_7 ⟨Nat.le_of_ble_eq_true rfl, Nat.le_of_ble_eq_true rfl⟩) (fun r_32 hr_32 => ?_)
      subst hr_32
      refine q_cvv (show va_rf none = .null from rfl) ?_
      exact hcut_10 none _ _ _ _ ⟨(Or.inl ⟨hn0, rfl⟩), rfl, rfl, (lv_sub hl [0, 1, 2, 3] rfl), rfl⟩
    · skip
      refine lv_aload_n hx hb dX6_plant_2 rfl (lv_at hl 1 rfl) ?_
      refine va_get (D := D) (own := RX6) (ref := "FuzzyFens$Tree") (ci := 5) (v := .ref sh) (C := RX6) (T := TX6) (N := 1) hx hb hts iX6_plant_X6 hown hK hR 0 rfl rfl 0 (by decide) (hts (.fieldLink RX6 12 "FuzzyFens$Tree" "nodes" "LFuzzyFens$Shelf;") (List.mem_of_getElem? (i := 1) rfl)) (fun _ h9 => h9) rfl dX6_plant_3 ?_
      refine lv_iconst (v := nI 0) hx hb dX6_plant_6 (by decide) ?_
      refine va_csq (W.runV (As := [.int (nI 0)]) (rest := []) ⟨hx, hb, hml, hown, hts⟩ (c_X5_at (l := l) (D := D) (sh := sh) (ar := ar) (cS := cS) (f := f) (m := n) (i := 0) (hi := by omega) (hm := hn40)) (cwV 1 hts gX6_plant_X5_at rfl rfl rfl (by decide +kernel) ⟨Nat.le_of_ble_eq_true rfl, Nat.le_of_ble_eq_true rfl⟩) ⟨qP_blind, (va_recv hK hP (ci := 4) (q0 := 0) rfl rfl), (qP_of (hP.sub (ws' := [(sh, .inr (4, [.ref ar, .int (nI n)])), (ar, .inl (cS, 40, .inr (.inr (.inr (.inr f)))))]) [0, 1] rfl) (hK.sub (tys' := [(cS, .object "FuzzyFens$Entry")]) [0] rfl) hNw)⟩ rfl rfl hl.1 rfl (lv_room (Nat.le_of_ble_eq_true rfl)) dX6_plant_7 ⟨Nat.le_of_ble_eq_true rfl, Nat.le_of_ble_eq_true rfl⟩) (fun r_33 hr_33 => ?_)
      subst hr_33
      have e9 : f 0 = some (ea 0) := hfe _ (by omega)
      refine q_cvv (show va_rf (f 0) = .ref (ea 0) from (by rw [e9]; rfl)) ?_
      exact hcut_10 (some 0) _ _ _ _ ⟨(Or.inr ⟨hn0, rfl⟩), rfl, rfl, (lv_sub hl [0, 1, 2, 3] rfl), rfl⟩
