set_option maxRecDepth 20000 in
theorem iX1_startRows_X1 : ∀ w ∈ wsX10, w ∈ wsX1_startRows := by decide +kernel
set_option maxRecDepth 20000 in
theorem iX1_startRows_X8 : ∀ w ∈ wsX80, w ∈ wsX1_startRows := by decide +kernel
set_option maxHeartbeats 4000000 in
set_option maxRecDepth 100000 in
/-- Gauge.startRows -/
theorem c_X1_startRows (l : Launch) (D : va_G) (sz : Nat) (g : Nat) (gr : Nat) (ce : Nat) (cG : ClassId) (f : Nat → Int32) (o : Nat) (n : Nat) (hnd : ([ce] ++ [g, gr, o]).Nodup) (hg : gw n) : Met l yX1_startRows wsX1_startRows { frames := 2, cells := 0, slots := 0, locals := 44 } (va_Pc [.ref g, .ref o] (qW D sz ([(g, .inr (1, [.ref gr])), (gr, .inr (2, [.ref ce])), (o, .inr (7, [.long (lN n), .int (nI (wl n)), .long (lN (al n))]))]) [(ce, .inl (cG, 121, .inl f))] [(cG, .int)])) (va_Qv (fun (uv : (Nat → Int32)) => ∀ j, j ≤ wl n → uv j = nI j) (fun (uv : (Nat → Int32)) (tv : State) => va_P D vwCl [(ce, .inl (cG, 121, .inl uv))] tv.heap) (va_A [(ce, .inl (cG, 121, .inl f))] sz)) 0 0 (va_A [(ce, .inl (cG, 121, .inl f))] sz) := by
  refine Met.ofW (cc := cX1_startRows) (maxL := 3) (ret := none) (by decide) rfl ?_
  intro pM eM s mi9 argsM belowM methM cM sM B hml hv
  obtain ⟨rfl, hsz, hR0, hP, hK, hNw⟩ := hv
  have hx := B.exec
  have hb := B.bytes
  have hr := B.returns
  have hts := atoms_spec (ws := wsX1_startRows) B.pre
  have hown : s.vm.findClass RX1 = some mi9.cls := findClass_of_methodNamed B.named
  have hlocks := B.notSynchronized
  subst hsz
  have hna := q_na (RW := [(ce, .inl (cG, 121, .inl f))]) (RO := [(g, .inr (1, [.ref gr])), (gr, .inr (2, [.ref ce])), (o, .inr (7, [.long (lN n), .int (nI (wl n)), .long (lN (al n))]))]) hnd rfl rfl hR0
  have hD := q_D (RW := [(ce, .inl (cG, 121, .inl f))]) (sz := s.heap.size) hnd rfl
  have hA : ∀ q : Nat, s.heap.size ≤ q → va_A [(ce, .inl (cG, 121, .inl f))] s.heap.size q := fun q h => Or.inr h
  generalize hAe : va_A [(ce, .inl (cG, 121, .inl f))] s.heap.size = A at hna hD hA ⊢
  have hS : va_S A s.heap s.heap [] := va_S.rf
  have hR := hR0
  have hP : va_P D vwCl [(ce, .inl (cG, 121, .inl f))] s.heap := hP
  have hl := lv_entry ([.ref g, .ref o]) (n := 3) (Nat.le_of_ble_eq_true rfl)
  rw [lg_entry_eq]
  generalize (lg_sl ([.ref g, .ref o]) ++ List.replicate (3 - (lg_sl ([.ref g, .ref o])).length) Slot.unset).toArray = ls at hl ⊢
  have hl : lv_has ls 3 [(0, .ref g), (1, .ref o)] := hl
  have hwl := gw_wl hg
  refine lv_iconst (v := nI 0) hx hb dX1_startRows_0 (by decide) ?_
  refine lv_istore_n (lv' := [(2, .int (nI 0)), (0, .ref g), (1, .ref o)]) hx hb dX1_startRows_1 rfl hl (by decide) rfl (fun ls hl => ?_)
  refine q_loop (fun (x : (Nat) × (Nat → Int32)) (H : Heap) (locs : List Loc) (ls : Array Slot) => match x with | (col, f1) => (col ≤ wl n + 1) ∧ (∀ j, j < col → f1 j = nI j) ∧ va_P D vwCl [(ce, .inl (cG, 121, .inl f1))] H ∧ va_D A [(ce, .inl (cG, 121, .inl f1))] ∧ va_S A s.heap H locs ∧ lv_has ls 3 [(2, .int (nI col)), (0, .ref g), (1, .ref o)]) (fun (x : (Nat) × (Nat → Int32)) => match x with | (col, f1) => wl n + 1 - col) (0, f) ⟨(by omega), (fun j hj => by omega), hP, hD, hS, (lv_sub hl [0, 1, 2] rfl)⟩ ?_
  clear hl
  clear hP hD hS
  rintro ⟨col, f1⟩ H locs ls hI ih_2
  obtain ⟨hc, h1, hP, hD, hS, hl⟩ := hI
  have hR := q_ro hR0 hna hS
  refine lv_iload_n hx hb dX1_startRows_2 rfl (lv_at hl 0 rfl) ?_
  refine lv_aload_n hx hb dX1_startRows_3 rfl (lv_at hl 2 rfl) ?_
  refine va_getN (host := "FuzzyFens") (D := D) (own := RX1) (ref := "FuzzyFens$Word") (ci := 7) (v := .int (nI (wl n))) (C := RX8) (T := TX8) (N := 3) hx hb hts iX1_startRows_X8 hown hK hR 2 rfl rfl 1 (by decide) (va_Nw.use rfl (hNw.1 ("FuzzyFens$Gauge", 20, "FuzzyFens$Word", "length", "I") (List.mem_of_getElem? (i := 2) rfl))) (fun _ h9 => h9) rfl dX1_startRows_4 ?_
  refine q_icmp_gt (a := col) (b := wl n) (tgt := 26) hx hb dX1_startRows_7 (by decide) (by omega) (by omega) (fun c_7 => ?_) (fun c_7 => ?_)
  · skip
    exact W.vret hx hb hr (fun t9 ht hW => ⟨⟨f1, rfl, fun j hj => h1 j (by omega), by show va_P D vwCl _ t9.heap; rw [ht]; exact hP⟩, hS.F ht⟩) hS.2.2 dX1_startRows_26
  · skip
    refine lv_aload_n hx hb dX1_startRows_10 rfl (lv_at hl 1 rfl) ?_
    refine va_get (D := D) (own := RX1) (ref := "FuzzyFens$Gauge") (ci := 1) (v := .ref gr) (C := RX1) (T := TX1) (N := 1) hx hb hts iX1_startRows_X1 hown hK hR 0 rfl rfl 0 (by decide) (hts (.fieldLink RX1 10 "FuzzyFens$Gauge" "grid" "LFuzzyFens$Grid;") (List.mem_of_getElem? (i := 1) rfl)) (fun _ h9 => h9) rfl dX1_startRows_11 ?_
    refine lv_iconst (v := nI 0) hx hb dX1_startRows_14 (by decide) ?_
    refine lv_iload_n hx hb dX1_startRows_15 rfl (lv_at hl 0 rfl) ?_
    refine lv_iload_n hx hb dX1_startRows_16 rfl (lv_at hl 0 rfl) ?_
    have hF := va_free (wc := [(ce, .inl (cG, 121, .inl f1))]) hD hS hA [0] rfl
    refine va_callv (va_runV (As := [.int (nI 0), .int (nI col), .int (nI col)]) (rest := []) ⟨hx, hb, hml, hown, hts⟩ (c_X2_put (l := l) (D := D) (g := gr) (ce := ce) (cA := cG) (f := f1) (r := 0) (k := col) (v := nI col) (sz := H.size) (hnd := (q_nds hnd [0, 2] rfl rfl)) (hr1 := by omega) (hk1 := by omega)) (cwV 3 hts gX1_startRows_X2_put rfl rfl rfl (by decide +kernel) ⟨Nat.le_of_ble_eq_true rfl, Nat.le_of_ble_eq_true rfl⟩) ⟨qW_blind, (va_recv hK hR (ci := 2) (q0 := 1) rfl rfl), (qW_of (hR.sub (ws' := [(gr, .inr (2, [.ref ce]))]) [1] rfl) (hP.sub (ws' := [(ce, .inl (cG, 121, .inl f1))]) [0] rfl) (hK.sub (tys' := [(cG, .int)]) [0] rfl) hNw)⟩ rfl rfl hl.1 rfl (lv_room (Nat.le_of_ble_eq_true rfl)) dX1_startRows_17 ⟨Nat.le_of_ble_eq_true rfl, Nat.le_of_ble_eq_true rfl⟩) hS (fun q _ h => hF q h) hF (fun u_5 t_4 H_2 locs_3 ht hvm hr_1 hB hz1 hk1 hS => ?_)
    replace hB : va_P D vwCl [(ce, .inl (cG, 121, .inl (upd f1 (11 * 0 + col) (nI col))))] H_2 := by rw [← ht]; exact hB
    obtain ⟨hP, hD⟩ := q_join (wc := [(ce, .inl (cG, 121, .inl f1))]) (w1 := [(ce, .inl (cG, 121, .inl (upd f1 (11 * 0 + col) (nI col))))]) (ws' := [(ce, .inl (cG, 121, .inl (upd f1 (11 * 0 + col) (nI col))))]) [0] hP hD rfl rfl hk1 hB rfl
    have hR := q_ro hR0 hna hS
    refine lv_iinc (v := nI (col + 1)) (lv' := [(2, .int (nI (col + 1))), (0, .ref g), (1, .ref o)]) hx hb dX1_startRows_20 hl (k := 0) rfl (q_inc (k := 1) (by omega)) (by decide) rfl (fun ls hl => ?_)
    refine lv_goto (tgt := 2) hx hb dX1_startRows_23 (by decide) ?_
    exact ih_2 (col + 1, upd f1 (11 * 0 + col) (nI col)) _ _ _ ⟨(by omega), (by intro j hj; rw [show 11 * 0 + col = col by omega]; by_cases e : j = col; (rw [e]; exact pk_us); (rw [pk_un e]; exact h1 j (by omega))), hP, hD, hS, (lv_sub hl [0, 1, 2] rfl)⟩ (by show wl n + 1 - (col + 1) < wl n + 1 - col; omega)

set_option maxRecDepth 20000 in
theorem iX1_fillRow_X1 : ∀ w ∈ wsX10, w ∈ wsX1_fillRow := by decide +kernel
set_option maxRecDepth 20000 in
theorem iX1_fillRow_X8 : ∀ w ∈ wsX80, w ∈ wsX1_fillRow := by decide +kernel
set_option maxHeartbeats 4000000 in
set_option maxRecDepth 100000 in
/-- Gauge.fillRow -/
theorem c_X1_fillRow (l : Launch) (D : va_G) (sz : Nat) (g : Nat) (gr : Nat) (ce : Nat) (cG : ClassId) (f : Nat → Int32) (o : Nat) (n : Nat) (R : Nat → Nat) (row : Nat) (lt9 : Nat) (hnd : ([ce] ++ [g, gr, o]).Nodup) (hr1 : 1 ≤ row) (hr2 : row ≤ 10) (hg : gw n) (hRv : ∀ j, j ≤ wl n → f (11 * row - 11 + j) = nI (R j)) (hRb : ∀ j, j ≤ wl n → R j ≤ 30) (hlt : lt9 < 32) : Met l yX1_fillRow wsX1_fillRow { frames := 2, cells := 0, slots := 0, locals := 44 } (va_Pc [.ref g, .int (nI row), .int (nI lt9), .ref o] (qW D sz ([(g, .inr (1, [.ref gr])), (gr, .inr (2, [.ref ce])), (o, .inr (7, [.long (lN n), .int (nI (wl n)), .long (lN (al n))]))]) [(ce, .inl (cG, 121, .inl f))] [(cG, .int)])) (va_Qv (fun (uv : (Nat → Int32)) => (∀ q, q < 11 * row → uv q = f q) ∧ ∀ j, j ≤ wl n → uv (11 * row + j) = nI (nrow R (co lt9 (ltz n)) row j)) (fun (uv : (Nat → Int32)) (tv : State) => va_P D vwCl [(ce, .inl (cG, 121, .inl uv))] tv.heap) (va_A [(ce, .inl (cG, 121, .inl f))] sz)) 0 0 (va_A [(ce, .inl (cG, 121, .inl f))] sz) := by
  refine Met.ofW (cc := cX1_fillRow) (maxL := 8) (ret := none) (by decide) rfl ?_
  intro pM eM s mi9 argsM belowM methM cM sM B hml hv
  obtain ⟨rfl, hsz, hR0, hP, hK, hNw⟩ := hv
  have hx := B.exec
  have hb := B.bytes
  have hr := B.returns
  have hts := atoms_spec (ws := wsX1_fillRow) B.pre
  have hown : s.vm.findClass RX1 = some mi9.cls := findClass_of_methodNamed B.named
  have hlocks := B.notSynchronized
  subst hsz
  have hna := q_na (RW := [(ce, .inl (cG, 121, .inl f))]) (RO := [(g, .inr (1, [.ref gr])), (gr, .inr (2, [.ref ce])), (o, .inr (7, [.long (lN n), .int (nI (wl n)), .long (lN (al n))]))]) hnd rfl rfl hR0
  have hD := q_D (RW := [(ce, .inl (cG, 121, .inl f))]) (sz := s.heap.size) hnd rfl
  have hA : ∀ q : Nat, s.heap.size ≤ q → va_A [(ce, .inl (cG, 121, .inl f))] s.heap.size q := fun q h => Or.inr h
  generalize hAe : va_A [(ce, .inl (cG, 121, .inl f))] s.heap.size = A at hna hD hA ⊢
  have hS : va_S A s.heap s.heap [] := va_S.rf
  have hR := hR0
  have hP : va_P D vwCl [(ce, .inl (cG, 121, .inl f))] s.heap := hP
  have hl := lv_entry ([.ref g, .int (nI row), .int (nI lt9), .ref o]) (n := 8) (Nat.le_of_ble_eq_true rfl)
  rw [lg_entry_eq]
  generalize (lg_sl ([.ref g, .int (nI row), .int (nI lt9), .ref o]) ++ List.replicate (8 - (lg_sl ([.ref g, .int (nI row), .int (nI lt9), .ref o])).length) Slot.unset).toArray = ls at hl ⊢
  have hl : lv_has ls 8 [(0, .ref g), (1, .int (nI row)), (2, .int (nI lt9)), (3, .ref o)] := hl
  have hwl := gw_wl hg
  refine lv_aload_n hx hb dX1_fillRow_0 rfl (lv_at hl 0 rfl) ?_
  refine va_get (D := D) (own := RX1) (ref := "FuzzyFens$Gauge") (ci := 1) (v := .ref gr) (C := RX1) (T := TX1) (N := 1) hx hb hts iX1_fillRow_X1 hown hK hR 0 rfl rfl 0 (by decide) (hts (.fieldLink RX1 10 "FuzzyFens$Gauge" "grid" "LFuzzyFens$Grid;") (List.mem_of_getElem? (i := 1) rfl)) (fun _ h9 => h9) rfl dX1_fillRow_1 ?_
  refine lv_iload_n hx hb dX1_fillRow_4 rfl (lv_at hl 1 rfl) ?_
  refine lv_iconst (v := nI 0) hx hb dX1_fillRow_5 (by decide) ?_
  refine lv_iload_n hx hb dX1_fillRow_6 rfl (lv_at hl 1 rfl) ?_
  have hF := va_free (wc := [(ce, .inl (cG, 121, .inl f))]) hD hS hA [0] rfl
  refine va_callv (va_runV (As := [.int (nI row), .int (nI 0), .int (nI row)]) (rest := []) ⟨hx, hb, hml, hown, hts⟩ (c_X2_put (l := l) (D := D) (g := gr) (ce := ce) (cA := cG) (f := f) (r := row) (k := 0) (v := nI row) (sz := s.heap.size) (hnd := (q_nds hnd [0, 2] rfl rfl)) (hr1 := by omega) (hk1 := by omega)) (cwV 3 hts gX1_fillRow_X2_put rfl rfl rfl (by decide +kernel) ⟨Nat.le_of_ble_eq_true rfl, Nat.le_of_ble_eq_true rfl⟩) ⟨qW_blind, (va_recv hK hR (ci := 2) (q0 := 1) rfl rfl), (qW_of (hR.sub (ws' := [(gr, .inr (2, [.ref ce]))]) [1] rfl) (hP.sub (ws' := [(ce, .inl (cG, 121, .inl f))]) [0] rfl) (hK.sub (tys' := [(cG, .int)]) [0] rfl) hNw)⟩ rfl rfl hl.1 rfl (lv_room (Nat.le_of_ble_eq_true rfl)) dX1_fillRow_7 ⟨Nat.le_of_ble_eq_true rfl, Nat.le_of_ble_eq_true rfl⟩) hS (fun q _ h => hF q h) hF (fun u_5 t_4 H_2 locs_3 ht hvm hr_1 hB hz1 hk1 hS => ?_)
  replace hB : va_P D vwCl [(ce, .inl (cG, 121, .inl (upd f (11 * row + 0) (nI row))))] H_2 := by rw [← ht]; exact hB
  obtain ⟨hP, hD⟩ := q_join (wc := [(ce, .inl (cG, 121, .inl f))]) (w1 := [(ce, .inl (cG, 121, .inl (upd f (11 * row + 0) (nI row))))]) (ws' := [(ce, .inl (cG, 121, .inl (upd f (11 * row + 0) (nI row))))]) [0] hP hD rfl rfl hk1 hB rfl
  have hR := q_ro hR0 hna hS
  refine lv_iconst (v := nI 1) hx hb dX1_fillRow_10 (by decide) ?_
  refine lv_istore (lv' := [(4, .int (nI 1)), (0, .ref g), (1, .int (nI row)), (2, .int (nI lt9)), (3, .ref o)]) hx hb dX1_fillRow_11 hl (by decide) rfl (fun ls hl => ?_)
  refine q_loop (fun (x : (Nat) × (Nat → Int32)) (H : Heap) (locs : List Loc) (ls : Array Slot) => match x with | (col, f1) => (1 ≤ col ∧ col ≤ wl n + 1) ∧ (∀ q, q < 11 * row → f1 q = f q) ∧ (∀ j, j < col → f1 (11 * row + j) = nI (nrow R (co lt9 (ltz n)) row j)) ∧ va_P D vwCl [(ce, .inl (cG, 121, .inl f1))] H ∧ va_D A [(ce, .inl (cG, 121, .inl f1))] ∧ va_S A s.heap H locs ∧ lv_has ls 8 [(4, .int (nI col)), (0, .ref g), (1, .int (nI row)), (2, .int (nI lt9)), (3, .ref o)]) (fun (x : (Nat) × (Nat → Int32)) => match x with | (col, f1) => wl n + 1 - col) (1, upd f (11 * row + 0) (nI row)) ⟨(by omega), (fun q hq => pk_un (by omega)), (fun j hj => by rw [show j = 0 by omega]; exact pk_us), hP, hD, hS, (lv_sub hl [0, 1, 2, 3, 4] rfl)⟩ ?_
  clear hl
  clear hP hD hS
  rintro ⟨col, f1⟩ H locs ls hI ih_13
  obtain ⟨hc, hlo, hrw, hP, hD, hS, hl⟩ := hI
  have hR := q_ro hR0 hna hS
  refine lv_iload hx hb dX1_fillRow_13 (lv_at hl 0 rfl) ?_
  refine lv_aload_n hx hb dX1_fillRow_15 rfl (lv_at hl 4 rfl) ?_
  refine va_getN (host := "FuzzyFens") (D := D) (own := RX1) (ref := "FuzzyFens$Word") (ci := 7) (v := .int (nI (wl n))) (C := RX8) (T := TX8) (N := 3) hx hb hts iX1_fillRow_X8 hown hK hR 2 rfl rfl 1 (by decide) (va_Nw.use rfl (hNw.1 ("FuzzyFens$Gauge", 20, "FuzzyFens$Word", "length", "I") (List.mem_of_getElem? (i := 2) rfl))) (fun _ h9 => h9) rfl dX1_fillRow_16 ?_
  refine q_icmp_gt (a := col) (b := wl n) (tgt := 116) hx hb dX1_fillRow_19 (by decide) (by omega) (by omega) (fun c_19 => ?_) (fun c_19 => ?_)
  · skip
    exact W.vret hx hb hr (fun t9 ht hW => ⟨⟨f1, rfl, ⟨hlo, fun j hj => hrw j (by omega)⟩, by show va_P D vwCl _ t9.heap; rw [ht]; exact hP⟩, hS.F ht⟩) hS.2.2 dX1_fillRow_116
  · skip
    refine lv_aload_n hx hb dX1_fillRow_22 rfl (lv_at hl 1 rfl) ?_
    refine va_get (D := D) (own := RX1) (ref := "FuzzyFens$Gauge") (ci := 1) (v := .ref gr) (C := RX1) (T := TX1) (N := 1) hx hb hts iX1_fillRow_X1 hown hK hR 0 rfl rfl 0 (by decide) (hts (.fieldLink RX1 10 "FuzzyFens$Gauge" "grid" "LFuzzyFens$Grid;") (List.mem_of_getElem? (i := 1) rfl)) (fun _ h9 => h9) rfl dX1_fillRow_23 ?_
    refine lv_iload_n hx hb dX1_fillRow_26 rfl (lv_at hl 2 rfl) ?_
    refine lv_iconst (v := nI 1) hx hb dX1_fillRow_27 (by decide) ?_
    refine q_isub (d := row - 1) hx hb dX1_fillRow_28 (by omega) ?_
    refine lv_iload hx hb dX1_fillRow_29 (lv_at hl 0 rfl) ?_
    refine lv_iconst (v := nI 1) hx hb dX1_fillRow_31 (by decide) ?_
    refine q_isub (d := col - 1) hx hb dX1_fillRow_32 (by omega) ?_
    refine vp_callSi (W.runV (As := [.int (nI (row - 1)), .int (nI (col - 1))]) (rest := []) ⟨hx, hb, hml, hown, hts⟩ (c_X2_at (l := l) (D := D) (g := gr) (ce := ce) (cA := cG) (f := f1) (r := row - 1) (k := col - 1) (hr1 := by omega) (hk1 := by omega)) (cwV 2 hts gX1_fillRow_X2_at rfl rfl rfl (by decide +kernel) ⟨Nat.le_of_ble_eq_true rfl, Nat.le_of_ble_eq_true rfl⟩) ⟨qP_blind, (va_recv hK hR (ci := 2) (q0 := 1) rfl rfl), (qP_of (show va_P D vwCl [(gr, .inr (2, [.ref ce])), (ce, .inl (cG, 121, .inl f1))] _ from (va_P.app (hR.sub (ws' := [(gr, .inr (2, [.ref ce]))]) [1] rfl) (hP.sub (ws' := [(ce, .inl (cG, 121, .inl f1))]) [0] rfl))) (hK.sub (tys' := [(cG, .int)]) [0] rfl) hNw)⟩ rfl rfl hl.1 rfl (lv_room (Nat.le_of_ble_eq_true rfl)) dX1_fillRow_33 ⟨Nat.le_of_ble_eq_true rfl, Nat.le_of_ble_eq_true rfl⟩) (fun r_6 hr_6 => ?_)
    subst hr_6
    refine q_cvi (show (f1 (11 * (row - 1) + (col - 1))) = (nI (R (col - 1))) from (by rw [show 11 * (row - 1) + (col - 1) = 11 * row - 11 + (col - 1) by omega, hlo _ (by omega)]; exact hRv _ (by omega))) ?_
    refine lv_iload_n hx hb dX1_fillRow_36 rfl (lv_at hl 3 rfl) ?_
    refine lv_aload_n hx hb dX1_fillRow_37 rfl (lv_at hl 4 rfl) ?_
    refine lv_iload hx hb dX1_fillRow_38 (lv_at hl 0 rfl) ?_
    refine lv_iconst (v := nI 1) hx hb dX1_fillRow_40 (by decide) ?_
    refine q_isub (d := col - 1) hx hb dX1_fillRow_41 (by omega) ?_
    refine vp_callSi (W.runV (As := [.int (nI (col - 1))]) (rest := [.int (nI lt9), .int (nI (R (col - 1)))]) ⟨hx, hb, hml, hown, hts⟩ (c_X8_letterAt (l := l) (D := D) (w := o) (n := n) (p := col - 1) (hg := hg) (hp := by omega)) (cwV 1 hts gX1_fillRow_X8_letterAt rfl rfl rfl (by decide +kernel) ⟨Nat.le_of_ble_eq_true rfl, Nat.le_of_ble_eq_true rfl⟩) ⟨qP_blind, (va_recv hK hR (ci := 7) (q0 := 2) rfl rfl), (qP_of (hR.sub (ws' := [(o, .inr (7, [.long (lN n), .int (nI (wl n)), .long (lN (al n))]))]) [2] rfl) (hK.sub (tys' := []) [] rfl) hNw)⟩ rfl rfl hl.1 rfl (lv_room (Nat.le_of_ble_eq_true rfl)) dX1_fillRow_42 ⟨Nat.le_of_ble_eq_true rfl, Nat.le_of_ble_eq_true rfl⟩) (fun r_7 hr_7 => ?_)
    subst hr_7
    refine q_cut 53 (fun (x : (Nat)) (Hc : Heap) (Lc : List Loc) (ls : Array Slot) (st : List Value) => match x with | cv => (cv = co lt9 (ltz n) (col - 1)) ∧ H = Hc ∧ locs = Lc ∧ lv_has ls 8 [(4, .int (nI col)), (0, .ref g), (1, .int (nI row)), (2, .int (nI lt9)), (3, .ref o)] ∧ [.int (nI cv), .int (nI (R (col - 1)))] = st) ?_ ?_
    · clear hl
      rintro cv Hc Lc ls st hI
      obtain ⟨hcv, rfl, rfl, hl, rfl⟩ := hI
      refine q_iadd (d := R (col - 1) + cv) hx hb dX1_fillRow_53 (by omega) ?_
      refine lv_istore (lv' := [(5, .int (nI (R (col - 1) + cv))), (4, .int (nI col)), (0, .ref g), (1, .int (nI row)), (2, .int (nI lt9)), (3, .ref o)]) hx hb dX1_fillRow_54 hl (by decide) rfl (fun ls hl => ?_)
      refine lv_aload_n hx hb dX1_fillRow_56 rfl (lv_at hl 2 rfl) ?_
      refine va_get (D := D) (own := RX1) (ref := "FuzzyFens$Gauge") (ci := 1) (v := .ref gr) (C := RX1) (T := TX1) (N := 1) hx hb hts iX1_fillRow_X1 hown hK hR 0 rfl rfl 0 (by decide) (hts (.fieldLink RX1 10 "FuzzyFens$Gauge" "grid" "LFuzzyFens$Grid;") (List.mem_of_getElem? (i := 1) rfl)) (fun _ h9 => h9) rfl dX1_fillRow_57 ?_
      refine lv_iload_n hx hb dX1_fillRow_60 rfl (lv_at hl 3 rfl) ?_
      refine lv_iload hx hb dX1_fillRow_61 (lv_at hl 1 rfl) ?_
      refine lv_iconst (v := nI 1) hx hb dX1_fillRow_63 (by decide) ?_
      refine q_isub (d := col - 1) hx hb dX1_fillRow_64 (by omega) ?_
      refine vp_callSi (W.runV (As := [.int (nI row), .int (nI (col - 1))]) (rest := []) ⟨hx, hb, hml, hown, hts⟩ (c_X2_at (l := l) (D := D) (g := gr) (ce := ce) (cA := cG) (f := f1) (r := row) (k := col - 1) (hr1 := by omega) (hk1 := by omega)) (cwV 2 hts gX1_fillRow_X2_at rfl rfl rfl (by decide +kernel) ⟨Nat.le_of_ble_eq_true rfl, Nat.le_of_ble_eq_true rfl⟩) ⟨qP_blind, (va_recv hK hR (ci := 2) (q0 := 1) rfl rfl), (qP_of (show va_P D vwCl [(gr, .inr (2, [.ref ce])), (ce, .inl (cG, 121, .inl f1))] _ from (va_P.app (hR.sub (ws' := [(gr, .inr (2, [.ref ce]))]) [1] rfl) (hP.sub (ws' := [(ce, .inl (cG, 121, .inl f1))]) [0] rfl))) (hK.sub (tys' := [(cG, .int)]) [0] rfl) hNw)⟩ rfl rfl hl.1 rfl (lv_room (Nat.le_of_ble_eq_true rfl)) dX1_fillRow_65 ⟨Nat.le_of_ble_eq_true rfl, Nat.le_of_ble_eq_true rfl⟩) (fun r_8 hr_8 => ?_)
      subst hr_8
      refine q_cvi (show (f1 (11 * row + (col - 1))) = (nI (nrow R (co lt9 (ltz n)) row (col - 1))) from hrw _ (by omega)) ?_
      refine lv_iconst (v := nI 1) hx hb dX1_fillRow_68 (by decide) ?_
      refine q_iadd (d := nrow R (co lt9 (ltz n)) row (col - 1) + 1) hx hb dX1_fillRow_69 (by omega) ?_
      refine lv_istore (lv' := [(6, .int (nI (nrow R (co lt9 (ltz n)) row (col - 1) + 1))), (5, .int (nI (R (col - 1) + cv))), (4, .int (nI col)), (0, .ref g), (1, .int (nI row)), (2, .int (nI lt9)), (3, .ref o)]) hx hb dX1_fillRow_70 hl (by decide) rfl (fun ls hl => ?_)
      refine lv_aload_n hx hb dX1_fillRow_72 rfl (lv_at hl 3 rfl) ?_
      refine va_get (D := D) (own := RX1) (ref := "FuzzyFens$Gauge") (ci := 1) (v := .ref gr) (C := RX1) (T := TX1) (N := 1) hx hb hts iX1_fillRow_X1 hown hK hR 0 rfl rfl 0 (by decide) (hts (.fieldLink RX1 10 "FuzzyFens$Gauge" "grid" "LFuzzyFens$Grid;") (List.mem_of_getElem? (i := 1) rfl)) (fun _ h9 => h9) rfl dX1_fillRow_73 ?_
      refine lv_iload_n hx hb dX1_fillRow_76 rfl (lv_at hl 4 rfl) ?_
      refine lv_iconst (v := nI 1) hx hb dX1_fillRow_77 (by decide) ?_
      refine q_isub (d := row - 1) hx hb dX1_fillRow_78 (by omega) ?_
      refine lv_iload hx hb dX1_fillRow_79 (lv_at hl 2 rfl) ?_
      refine vp_callSi (W.runV (As := [.int (nI (row - 1)), .int (nI col)]) (rest := []) ⟨hx, hb, hml, hown, hts⟩ (c_X2_at (l := l) (D := D) (g := gr) (ce := ce) (cA := cG) (f := f1) (r := row - 1) (k := col) (hr1 := by omega) (hk1 := by omega)) (cwV 2 hts gX1_fillRow_X2_at rfl rfl rfl (by decide +kernel) ⟨Nat.le_of_ble_eq_true rfl, Nat.le_of_ble_eq_true rfl⟩) ⟨qP_blind, (va_recv hK hR (ci := 2) (q0 := 1) rfl rfl), (qP_of (show va_P D vwCl [(gr, .inr (2, [.ref ce])), (ce, .inl (cG, 121, .inl f1))] _ from (va_P.app (hR.sub (ws' := [(gr, .inr (2, [.ref ce]))]) [1] rfl) (hP.sub (ws' := [(ce, .inl (cG, 121, .inl f1))]) [0] rfl))) (hK.sub (tys' := [(cG, .int)]) [0] rfl) hNw)⟩ rfl rfl hl.1 rfl (lv_room (Nat.le_of_ble_eq_true rfl)) dX1_fillRow_81 ⟨Nat.le_of_ble_eq_true rfl, Nat.le_of_ble_eq_true rfl⟩) (fun r_9 hr_9 => ?_)
      subst hr_9
      refine q_cvi (show (f1 (11 * (row - 1) + col)) = (nI (R col)) from (by rw [show 11 * (row - 1) + col = 11 * row - 11 + col by omega, hlo _ (by omega)]; exact hRv _ (by omega))) ?_
      refine lv_iconst (v := nI 1) hx hb dX1_fillRow_84 (by decide) ?_
      refine q_iadd (d := R col + 1) hx hb dX1_fillRow_85 (by omega) ?_
      refine lv_istore (lv' := [(7, .int (nI (R col + 1))), (6, .int (nI (nrow R (co lt9 (ltz n)) row (col - 1) + 1))), (5, .int (nI (R (col - 1) + cv))), (4, .int (nI col)), (0, .ref g), (1, .int (nI row)), (2, .int (nI lt9)), (3, .ref o)]) hx hb dX1_fillRow_86 hl (by decide) rfl (fun ls hl => ?_)
      refine lv_aload_n hx hb dX1_fillRow_88 rfl (lv_at hl 4 rfl) ?_
      refine va_get (D := D) (own := RX1) (ref := "FuzzyFens$Gauge") (ci := 1) (v := .ref gr) (C := RX1) (T := TX1) (N := 1) hx hb hts iX1_fillRow_X1 hown hK hR 0 rfl rfl 0 (by decide) (hts (.fieldLink RX1 10 "FuzzyFens$Gauge" "grid" "LFuzzyFens$Grid;") (List.mem_of_getElem? (i := 1) rfl)) (fun _ h9 => h9) rfl dX1_fillRow_89 ?_
      refine lv_iload_n hx hb dX1_fillRow_92 rfl (lv_at hl 5 rfl) ?_
      refine lv_iload hx hb dX1_fillRow_93 (lv_at hl 3 rfl) ?_
      refine lv_iload hx hb dX1_fillRow_95 (lv_at hl 2 rfl) ?_
      refine lv_iload hx hb dX1_fillRow_97 (lv_at hl 1 rfl) ?_
      refine lv_iload hx hb dX1_fillRow_99 (lv_at hl 0 rfl) ?_
      refine va_mmin hx hb (hml.trans hl.1.symm) hown (hts (.methodLink RX1 42 Lib.Math.min.name) (List.mem_of_getElem? (i := 2) rfl)) (hts (.static Lib.Math.min.name) (List.mem_of_getElem? (i := 3) rfl)) (hts (.initialized "java/lang/Math") (List.mem_of_getElem? (i := 4) rfl)) (hts (.code Lib.Math.min.name Lib.Math.min.code 2 (some .int)) (List.mem_of_getElem? (i := 5) rfl)) (Nat.le_of_ble_eq_true rfl) (Nat.le_of_ble_eq_true rfl) (Nat.le_of_ble_eq_true rfl) (Nat.le_of_ble_eq_true rfl) dX1_fillRow_101 ?_
      refine q_cvi (q_min (by have := nrow_le R (co lt9 (ltz n)) row (col - 1); omega) (by have := hRb col (by omega); omega)) ?_
      refine va_mmin hx hb (hml.trans hl.1.symm) hown (hts (.methodLink RX1 42 Lib.Math.min.name) (List.mem_of_getElem? (i := 2) rfl)) (hts (.static Lib.Math.min.name) (List.mem_of_getElem? (i := 3) rfl)) (hts (.initialized "java/lang/Math") (List.mem_of_getElem? (i := 4) rfl)) (hts (.code Lib.Math.min.name Lib.Math.min.code 2 (some .int)) (List.mem_of_getElem? (i := 5) rfl)) (Nat.le_of_ble_eq_true rfl) (Nat.le_of_ble_eq_true rfl) (Nat.le_of_ble_eq_true rfl) (Nat.le_of_ble_eq_true rfl) dX1_fillRow_104 ?_
      refine q_cvi (q_min (by have := hRb (col - 1) (by omega); have h1 : cv ≤ 1 := (by rw [hcv]; unfold co; split <;> omega); omega) (by have := hRb col (by omega); omega)) ?_
      have hF := va_free (wc := [(ce, .inl (cG, 121, .inl f1))]) hD hS hA [0] rfl
      refine va_callv (va_runV (As := [.int (nI row), .int (nI col), .int (nI (min (R (col - 1) + cv) (min (nrow R (co lt9 (ltz n)) row (col - 1) + 1) (R col + 1))))]) (rest := []) ⟨hx, hb, hml, hown, hts⟩ (c_X2_put (l := l) (D := D) (g := gr) (ce := ce) (cA := cG) (f := f1) (r := row) (k := col) (v := nI (min (R (col - 1) + cv) (min (nrow R (co lt9 (ltz n)) row (col - 1) + 1) (R col + 1)))) (sz := H.size) (hnd := (q_nds hnd [0, 2] rfl rfl)) (hr1 := by omega) (hk1 := by omega)) (cwV 3 hts gX1_fillRow_X2_put rfl rfl rfl (by decide +kernel) ⟨Nat.le_of_ble_eq_true rfl, Nat.le_of_ble_eq_true rfl⟩) ⟨qW_blind, (va_recv hK hR (ci := 2) (q0 := 1) rfl rfl), (qW_of (hR.sub (ws' := [(gr, .inr (2, [.ref ce]))]) [1] rfl) (hP.sub (ws' := [(ce, .inl (cG, 121, .inl f1))]) [0] rfl) (hK.sub (tys' := [(cG, .int)]) [0] rfl) hNw)⟩ rfl rfl hl.1 rfl (lv_room (Nat.le_of_ble_eq_true rfl)) dX1_fillRow_107 ⟨Nat.le_of_ble_eq_true rfl, Nat.le_of_ble_eq_true rfl⟩) hS (fun q _ h => hF q h) hF (fun u_14 t_13 H_11 locs_12 ht hvm hr_10 hB hz1 hk1 hS => ?_)
      replace hB : va_P D vwCl [(ce, .inl (cG, 121, .inl (upd f1 (11 * row + col) (nI (min (R (col - 1) + cv) (min (nrow R (co lt9 (ltz n)) row (col - 1) + 1) (R col + 1)))))))] H_11 := by rw [← ht]; exact hB
      obtain ⟨hP, hD⟩ := q_join (wc := [(ce, .inl (cG, 121, .inl f1))]) (w1 := [(ce, .inl (cG, 121, .inl (upd f1 (11 * row + col) (nI (min (R (col - 1) + cv) (min (nrow R (co lt9 (ltz n)) row (col - 1) + 1) (R col + 1)))))))]) (ws' := [(ce, .inl (cG, 121, .inl (upd f1 (11 * row + col) (nI (min (R (col - 1) + cv) (min (nrow R (co lt9 (ltz n)) row (col - 1) + 1) (R col + 1)))))))]) [0] hP hD rfl rfl hk1 hB rfl
      have hR := q_ro hR0 hna hS
      refine lv_iinc (v := nI (col + 1)) (lv' := [(4, .int (nI (col + 1))), (7, .int (nI (R col + 1))), (6, .int (nI (nrow R (co lt9 (ltz n)) row (col - 1) + 1))), (5, .int (nI (R (col - 1) + cv))), (0, .ref g), (1, .int (nI row)), (2, .int (nI lt9)), (3, .ref o)]) hx hb dX1_fillRow_110 hl (k := 3) rfl (q_inc (k := 1) (by omega)) (by decide) rfl (fun ls hl => ?_)
      refine lv_goto (tgt := 13) hx hb dX1_fillRow_113 (by decide) ?_
      exact ih_13 (col + 1, upd f1 (11 * row + col) (nI (min (R (col - 1) + cv) (min (nrow R (co lt9 (ltz n)) row (col - 1) + 1) (R col + 1))))) _ _ _ ⟨(by omega), (fun q hq => by rw [pk_un (by omega)]; exact hlo q hq), (by intro j hj; by_cases e : j = col; (subst e; rw [pk_us]; obtain ⟨k, rfl⟩ : ∃ k, j = k + 1 := ⟨j - 1, by omega⟩; rw [hcv]; rfl); (rw [pk_un (by omega)]; exact hrw j (by omega))), hP, hD, hS, (lv_sub hl [0, 4, 5, 6, 7] rfl)⟩ (by show wl n + 1 - (col + 1) < wl n + 1 - col; omega)
    · intro hcut_53
      refine q_icmp_ne (a := lt9) (b := ltz n (col - 1)) (tgt := 52) hx hb dX1_fillRow_45 (by decide) (by omega) (by have := ltz_32 n (col - 1); omega) (fun c_45 => ?_) (fun c_45 => ?_)
      · skip
        refine lv_iconst (v := nI 1) hx hb dX1_fillRow_52 (by decide) ?_
        exact hcut_53 1 _ _ _ _ ⟨(by unfold co; rw [if_neg c_45]), rfl, rfl, (lv_sub hl [0, 1, 2, 3, 4] rfl), rfl⟩
      · skip
        refine lv_iconst (v := nI 0) hx hb dX1_fillRow_48 (by decide) ?_
        refine lv_goto (tgt := 53) hx hb dX1_fillRow_49 (by decide) ?_
        exact hcut_53 0 _ _ _ _ ⟨(by unfold co; rw [if_pos c_45]), rfl, rfl, (lv_sub hl [0, 1, 2, 3, 4] rfl), rfl⟩

set_option maxRecDepth 20000 in
theorem iX1_lettersApart_X1 : ∀ w ∈ wsX10, w ∈ wsX1_lettersApart := by decide +kernel
set_option maxRecDepth 20000 in
theorem iX1_lettersApart_X8 : ∀ w ∈ wsX80, w ∈ wsX1_lettersApart := by decide +kernel
set_option maxHeartbeats 4000000 in
set_option maxRecDepth 100000 in
/-- Gauge.lettersApart -/
theorem c_X1_lettersApart (l : Launch) (D : va_G) (sz : Nat) (g : Nat) (gr : Nat) (ce : Nat) (cG : ClassId) (f : Nat → Int32) (w : Nat) (v : Nat) (a : Nat) (b : Nat) (hnd : ([ce] ++ [g, gr, w, v]).Nodup) (hga : gw a) (hgb : gw b) : Met l yX1_lettersApart wsX1_lettersApart { frames := 3, cells := 0, slots := 0, locals := 71 } (va_Pc [.ref g, .ref w, .ref v] (qW D sz ([(g, .inr (1, [.ref gr])), (gr, .inr (2, [.ref ce])), (w, .inr (7, [.long (lN a), .int (nI (wl a)), .long (lN (al a))])), (v, .inr (7, [.long (lN b), .int (nI (wl b)), .long (lN (al b))]))]) [(ce, .inl (cG, 121, .inl f))] [(cG, .int)])) (va_Qi (fun (rv : Int32) (uv : (Nat → Int32)) => rv = nI (lev (ltz a) (ltz b) (wl a) (wl b))) (fun (uv : (Nat → Int32)) (tv : State) => va_P D vwCl [(ce, .inl (cG, 121, .inl uv))] tv.heap) (va_A [(ce, .inl (cG, 121, .inl f))] sz)) 0 0 (va_A [(ce, .inl (cG, 121, .inl f))] sz) := by
  refine Met.ofW (cc := cX1_lettersApart) (maxL := 4) (ret := (some .int)) (by decide) rfl ?_
  intro pM eM s mi9 argsM belowM methM cM sM B hml hv
  obtain ⟨rfl, hsz, hR0, hP, hK, hNw⟩ := hv
  have hx := B.exec
  have hb := B.bytes
  have hr := B.returns
  have hts := atoms_spec (ws := wsX1_lettersApart) B.pre
  have hown : s.vm.findClass RX1 = some mi9.cls := findClass_of_methodNamed B.named
  have hlocks := B.notSynchronized
  subst hsz
  have hna := q_na (RW := [(ce, .inl (cG, 121, .inl f))]) (RO := [(g, .inr (1, [.ref gr])), (gr, .inr (2, [.ref ce])), (w, .inr (7, [.long (lN a), .int (nI (wl a)), .long (lN (al a))])), (v, .inr (7, [.long (lN b), .int (nI (wl b)), .long (lN (al b))]))]) hnd rfl rfl hR0
  have hD := q_D (RW := [(ce, .inl (cG, 121, .inl f))]) (sz := s.heap.size) hnd rfl
  have hA : ∀ q : Nat, s.heap.size ≤ q → va_A [(ce, .inl (cG, 121, .inl f))] s.heap.size q := fun q h => Or.inr h
  generalize hAe : va_A [(ce, .inl (cG, 121, .inl f))] s.heap.size = A at hna hD hA ⊢
  have hS : va_S A s.heap s.heap [] := va_S.rf
  have hR := hR0
  have hP : va_P D vwCl [(ce, .inl (cG, 121, .inl f))] s.heap := hP
  have hl := lv_entry ([.ref g, .ref w, .ref v]) (n := 4) (Nat.le_of_ble_eq_true rfl)
  rw [lg_entry_eq]
  generalize (lg_sl ([.ref g, .ref w, .ref v]) ++ List.replicate (4 - (lg_sl ([.ref g, .ref w, .ref v])).length) Slot.unset).toArray = ls at hl ⊢
  have hl : lv_has ls 4 [(0, .ref g), (1, .ref w), (2, .ref v)] := hl
  have hwa := gw_wl hga
  have hwb := gw_wl hgb
  refine lv_aload_n hx hb dX1_lettersApart_0 rfl (lv_at hl 0 rfl) ?_
  refine lv_aload_n hx hb dX1_lettersApart_1 rfl (lv_at hl 2 rfl) ?_
  have hF := va_free (wc := [(ce, .inl (cG, 121, .inl f))]) hD hS hA [0] rfl
  refine va_callv (va_runV (As := [.ref v]) (rest := []) ⟨hx, hb, hml, hown, hts⟩ (c_X1_startRows (l := l) (D := D) (g := g) (gr := gr) (ce := ce) (cG := cG) (f := f) (o := v) (n := b) (sz := s.heap.size) (hnd := (q_nds hnd [0, 1, 2, 4] rfl rfl)) (hg := hgb)) (cwV 1 hts gX1_lettersApart_X1_startRows rfl rfl rfl (by decide +kernel) ⟨Nat.le_of_ble_eq_true rfl, Nat.le_of_ble_eq_true rfl⟩) ⟨qW_blind, (va_recv hK hR (ci := 1) (q0 := 0) rfl rfl), (qW_of (hR.sub (ws' := [(g, .inr (1, [.ref gr])), (gr, .inr (2, [.ref ce])), (v, .inr (7, [.long (lN b), .int (nI (wl b)), .long (lN (al b))]))]) [0, 1, 3] rfl) (hP.sub (ws' := [(ce, .inl (cG, 121, .inl f))]) [0] rfl) (hK.sub (tys' := [(cG, .int)]) [0] rfl) hNw)⟩ rfl rfl hl.1 rfl (lv_room (Nat.le_of_ble_eq_true rfl)) dX1_lettersApart_2 ⟨Nat.le_of_ble_eq_true rfl, Nat.le_of_ble_eq_true rfl⟩) hS (fun q _ h => hF q h) hF (fun u_5 t_4 H_2 locs_3 ht hvm hr_1 hB hz1 hk1 hS => ?_)
  obtain ⟨f5, rfl⟩ : ∃ z, z = u_5 := ⟨_, rfl⟩
  replace hB : va_P D vwCl [(ce, .inl (cG, 121, .inl f5))] H_2 := by rw [← ht]; exact hB
  obtain ⟨hP, hD⟩ := q_join (wc := [(ce, .inl (cG, 121, .inl f))]) (w1 := [(ce, .inl (cG, 121, .inl f5))]) (ws' := [(ce, .inl (cG, 121, .inl f5))]) [0] hP hD rfl rfl hk1 hB rfl
  have hR := q_ro hR0 hna hS
  have hst := hr_1
  refine lv_iconst (v := nI 1) hx hb dX1_lettersApart_5 (by decide) ?_
  refine lv_istore_n (lv' := [(3, .int (nI 1)), (0, .ref g), (1, .ref w), (2, .ref v)]) hx hb dX1_lettersApart_6 rfl hl (by decide) rfl (fun ls hl => ?_)
  refine q_loop (fun (x : (Nat) × (Nat → Int32)) (H : Heap) (locs : List Loc) (ls : Array Slot) => match x with | (row, f1) => (1 ≤ row ∧ row ≤ wl a + 1) ∧ (∀ j, j ≤ wl b → f1 (11 * row - 11 + j) = nI (lev (ltz a) (ltz b) (row - 1) j)) ∧ va_P D vwCl [(ce, .inl (cG, 121, .inl f1))] H ∧ va_D A [(ce, .inl (cG, 121, .inl f1))] ∧ va_S A s.heap H locs ∧ lv_has ls 4 [(3, .int (nI row)), (0, .ref g), (1, .ref w), (2, .ref v)]) (fun (x : (Nat) × (Nat → Int32)) => match x with | (row, f1) => wl a + 1 - row) (1, f5) ⟨(by omega), (fun j hj => by rw [show 11 * 1 - 11 + j = j by omega]; exact hst j hj), hP, hD, hS, (lv_sub hl [0, 1, 2, 3] rfl)⟩ ?_
  clear hl
  clear hP hD hS
  rintro ⟨row, f1⟩ H locs ls hI ih_7
  obtain ⟨hrr, hrow, hP, hD, hS, hl⟩ := hI
  have hR := q_ro hR0 hna hS
  refine lv_iload_n hx hb dX1_lettersApart_7 rfl (lv_at hl 0 rfl) ?_
  refine lv_aload_n hx hb dX1_lettersApart_8 rfl (lv_at hl 2 rfl) ?_
  refine va_getN (host := "FuzzyFens") (D := D) (own := RX1) (ref := "FuzzyFens$Word") (ci := 7) (v := .int (nI (wl a))) (C := RX8) (T := TX8) (N := 3) hx hb hts iX1_lettersApart_X8 hown hK hR 2 rfl rfl 1 (by decide) (va_Nw.use rfl (hNw.1 ("FuzzyFens$Gauge", 20, "FuzzyFens$Word", "length", "I") (List.mem_of_getElem? (i := 2) rfl))) (fun _ h9 => h9) rfl dX1_lettersApart_9 ?_
  refine q_icmp_gt (a := row) (b := wl a) (tgt := 34) hx hb dX1_lettersApart_12 (by decide) (by omega) (by omega) (fun c_12 => ?_) (fun c_12 => ?_)
  · skip
    refine lv_aload_n hx hb dX1_lettersApart_34 rfl (lv_at hl 1 rfl) ?_
    refine va_get (D := D) (own := RX1) (ref := "FuzzyFens$Gauge") (ci := 1) (v := .ref gr) (C := RX1) (T := TX1) (N := 1) hx hb hts iX1_lettersApart_X1 hown hK hR 0 rfl rfl 0 (by decide) (hts (.fieldLink RX1 10 "FuzzyFens$Gauge" "grid" "LFuzzyFens$Grid;") (List.mem_of_getElem? (i := 1) rfl)) (fun _ h9 => h9) rfl dX1_lettersApart_35 ?_
    refine lv_aload_n hx hb dX1_lettersApart_38 rfl (lv_at hl 2 rfl) ?_
    refine va_getN (host := "FuzzyFens") (D := D) (own := RX1) (ref := "FuzzyFens$Word") (ci := 7) (v := .int (nI (wl a))) (C := RX8) (T := TX8) (N := 3) hx hb hts iX1_lettersApart_X8 hown hK hR 2 rfl rfl 1 (by decide) (va_Nw.use rfl (hNw.1 ("FuzzyFens$Gauge", 20, "FuzzyFens$Word", "length", "I") (List.mem_of_getElem? (i := 2) rfl))) (fun _ h9 => h9) rfl dX1_lettersApart_39 ?_
    refine lv_aload_n hx hb dX1_lettersApart_42 rfl (lv_at hl 3 rfl) ?_
    refine va_getN (host := "FuzzyFens") (D := D) (own := RX1) (ref := "FuzzyFens$Word") (ci := 7) (v := .int (nI (wl b))) (C := RX8) (T := TX8) (N := 3) hx hb hts iX1_lettersApart_X8 hown hK hR 3 rfl rfl 1 (by decide) (va_Nw.use rfl (hNw.1 ("FuzzyFens$Gauge", 20, "FuzzyFens$Word", "length", "I") (List.mem_of_getElem? (i := 2) rfl))) (fun _ h9 => h9) rfl dX1_lettersApart_43 ?_
    refine vp_callSi (W.runV (As := [.int (nI (wl a)), .int (nI (wl b))]) (rest := []) ⟨hx, hb, hml, hown, hts⟩ (c_X2_at (l := l) (D := D) (g := gr) (ce := ce) (cA := cG) (f := f1) (r := wl a) (k := wl b) (hr1 := by omega) (hk1 := by omega)) (cwV 2 hts gX1_lettersApart_X2_at rfl rfl rfl (by decide +kernel) ⟨Nat.le_of_ble_eq_true rfl, Nat.le_of_ble_eq_true rfl⟩) ⟨qP_blind, (va_recv hK hR (ci := 2) (q0 := 1) rfl rfl), (qP_of (show va_P D vwCl [(gr, .inr (2, [.ref ce])), (ce, .inl (cG, 121, .inl f1))] _ from (va_P.app (hR.sub (ws' := [(gr, .inr (2, [.ref ce]))]) [1] rfl) (hP.sub (ws' := [(ce, .inl (cG, 121, .inl f1))]) [0] rfl))) (hK.sub (tys' := [(cG, .int)]) [0] rfl) hNw)⟩ rfl rfl hl.1 rfl (lv_room (Nat.le_of_ble_eq_true rfl)) dX1_lettersApart_46 ⟨Nat.le_of_ble_eq_true rfl, Nat.le_of_ble_eq_true rfl⟩) (fun r_6 hr_6 => ?_)
    subst hr_6
    exact W.iret (v := f1 (11 * (wl a) + (wl b))) hx hb hr (fun t9 ht hW => ⟨⟨f1 (11 * (wl a) + (wl b)), f1, rfl, (by have h9 := hrow (wl b) (Nat.le_refl _); rw [show row - 1 = wl a by omega, show 11 * row - 11 + wl b = 11 * (wl a) + (wl b) by omega] at h9; exact h9), by show va_P D vwCl _ t9.heap; rw [ht]; exact hP⟩, hS.F ht⟩) hS.2.2 dX1_lettersApart_49
  · skip
    refine lv_aload_n hx hb dX1_lettersApart_15 rfl (lv_at hl 1 rfl) ?_
    refine lv_iload_n hx hb dX1_lettersApart_16 rfl (lv_at hl 0 rfl) ?_
    refine lv_aload_n hx hb dX1_lettersApart_17 rfl (lv_at hl 2 rfl) ?_
    refine lv_iload_n hx hb dX1_lettersApart_18 rfl (lv_at hl 0 rfl) ?_
    refine lv_iconst (v := nI 1) hx hb dX1_lettersApart_19 (by decide) ?_
    refine q_isub (d := row - 1) hx hb dX1_lettersApart_20 (by omega) ?_
    refine vp_callSi (W.runV (As := [.int (nI (row - 1))]) (rest := [.int (nI row), .ref g]) ⟨hx, hb, hml, hown, hts⟩ (c_X8_letterAt (l := l) (D := D) (w := w) (n := a) (p := row - 1) (hg := hga) (hp := by omega)) (cwV 1 hts gX1_lettersApart_X8_letterAt rfl rfl rfl (by decide +kernel) ⟨Nat.le_of_ble_eq_true rfl, Nat.le_of_ble_eq_true rfl⟩) ⟨qP_blind, (va_recv hK hR (ci := 7) (q0 := 2) rfl rfl), (qP_of (hR.sub (ws' := [(w, .inr (7, [.long (lN a), .int (nI (wl a)), .long (lN (al a))]))]) [2] rfl) (hK.sub (tys' := []) [] rfl) hNw)⟩ rfl rfl hl.1 rfl (lv_room (Nat.le_of_ble_eq_true rfl)) dX1_lettersApart_21 ⟨Nat.le_of_ble_eq_true rfl, Nat.le_of_ble_eq_true rfl⟩) (fun r_7 hr_7 => ?_)
    subst hr_7
    refine lv_aload_n hx hb dX1_lettersApart_24 rfl (lv_at hl 3 rfl) ?_
    have hF := va_free (wc := [(ce, .inl (cG, 121, .inl f1))]) hD hS hA [0] rfl
    refine va_callv (va_runV (As := [.int (nI row), .int (nI (ltz a (row - 1))), .ref v]) (rest := []) ⟨hx, hb, hml, hown, hts⟩ (c_X1_fillRow (l := l) (D := D) (g := g) (gr := gr) (ce := ce) (cG := cG) (f := f1) (o := v) (n := b) (R := lev (ltz a) (ltz b) (row - 1)) (row := row) (lt9 := ltz a (row - 1)) (sz := H.size) (hnd := (q_nds hnd [0, 1, 2, 4] rfl rfl)) (hr1 := by omega) (hr2 := by omega) (hg := hgb) (hRv := hrow) (hRb := fun j hj => by have := lev_le (ltz a) (ltz b) (row - 1) j; omega) (hlt := ltz_32 _ _)) (cwV 3 hts gX1_lettersApart_X1_fillRow rfl rfl rfl (by decide +kernel) ⟨Nat.le_of_ble_eq_true rfl, Nat.le_of_ble_eq_true rfl⟩) ⟨qW_blind, (va_recv hK hR (ci := 1) (q0 := 0) rfl rfl), (qW_of (hR.sub (ws' := [(g, .inr (1, [.ref gr])), (gr, .inr (2, [.ref ce])), (v, .inr (7, [.long (lN b), .int (nI (wl b)), .long (lN (al b))]))]) [0, 1, 3] rfl) (hP.sub (ws' := [(ce, .inl (cG, 121, .inl f1))]) [0] rfl) (hK.sub (tys' := [(cG, .int)]) [0] rfl) hNw)⟩ rfl rfl hl.1 rfl (lv_room (Nat.le_of_ble_eq_true rfl)) dX1_lettersApart_25 ⟨Nat.le_of_ble_eq_true rfl, Nat.le_of_ble_eq_true rfl⟩) hS (fun q _ h => hF q h) hF (fun u_12 t_11 H_9 locs_10 ht hvm hr_8 hB hz1 hk1 hS => ?_)
    obtain ⟨f3, rfl⟩ : ∃ z, z = u_12 := ⟨_, rfl⟩
    replace hB : va_P D vwCl [(ce, .inl (cG, 121, .inl f3))] H_9 := by rw [← ht]; exact hB
    obtain ⟨hP, hD⟩ := q_join (wc := [(ce, .inl (cG, 121, .inl f1))]) (w1 := [(ce, .inl (cG, 121, .inl f3))]) (ws' := [(ce, .inl (cG, 121, .inl f3))]) [0] hP hD rfl rfl hk1 hB rfl
    have hR := q_ro hR0 hna hS
    obtain ⟨hfr0, hfr1⟩ := hr_8
    refine lv_iinc (v := nI (row + 1)) (lv' := [(3, .int (nI (row + 1))), (0, .ref g), (1, .ref w), (2, .ref v)]) hx hb dX1_lettersApart_28 hl (k := 0) rfl (q_inc (k := 1) (by omega)) (by decide) rfl (fun ls hl => ?_)
    refine lv_goto (tgt := 7) hx hb dX1_lettersApart_31 (by decide) ?_
    exact ih_7 (row + 1, f3) _ _ _ ⟨(by omega), (by intro j hj; rw [show 11 * (row + 1) - 11 + j = 11 * row + j by omega, hfr1 j hj]; obtain ⟨k, rfl⟩ : ∃ k, row = k + 1 := ⟨row - 1, by omega⟩; rfl), hP, hD, hS, (lv_sub hl [0, 1, 2, 3] rfl)⟩ (by show wl a + 1 - (row + 1) < wl a + 1 - row; omega)

/-- the least number of a row -/
def rmin (L : Nat → Nat) : Nat → Nat
  | 0 => L 0
  | j + 1 => min (rmin L j) (L (j + 1))
theorem rmin_le (L : Nat → Nat) : ∀ j, rmin L j ≤ L 0 := by
  intro j
  induction j with
  | zero => exact Nat.le_refl _
  | succ j ih => show min _ _ ≤ _; omega
/-- a row as one number, the first one highest -/
def pck (L : Nat → Nat) (c : Nat) : Nat → Nat
  | 0 => 0
  | j + 1 => pck L c j * 8 + min (L j) c
theorem pck_lt (L : Nat → Nat) {c : Nat} (h : c < 8) : ∀ j, pck L c j < 8 ^ j := by
  intro j
  induction j with
  | zero => show (0 : Nat) < 1; omega
  | succ j ih => rw [Nat.pow_succ]; show pck L c j * 8 + min (L j) c < _; omega
theorem q_shl3 {n : Nat} : lN n <<< ((nI 3).toInt64 &&& 63) = lN (8 * n) := by rw [Nat.mul_comm]; exact wb_shl n (k := 3) (by decide)
theorem q_or3 {a b : Nat} (hb : b < 8) (h : a * 8 + b < 2 ^ 64) : lN (8 * a) ||| lN b = lN (a * 8 + b) := by
  rw [Nat.mul_comm 8 a]
  rw [wb_or (by omega) (by omega)]
  congr 1
  have := Nat.shiftLeft_add_eq_or_of_lt (i := 3) (b := b) (by omega) a
  rw [Nat.shiftLeft_eq] at this
  exact this.symm

set_option maxRecDepth 20000 in
theorem iX1_leastInRow_X1 : ∀ w ∈ wsX10, w ∈ wsX1_leastInRow := by decide +kernel
set_option maxRecDepth 20000 in
theorem iX1_leastInRow_X8 : ∀ w ∈ wsX80, w ∈ wsX1_leastInRow := by decide +kernel
set_option maxHeartbeats 4000000 in
set_option maxRecDepth 100000 in
/-- Gauge.leastInRow -/
theorem c_X1_leastInRow (l : Launch) (D : va_G) (g : Nat) (gr : Nat) (ce : Nat) (cG : ClassId) (f : Nat → Int32) (o : Nat) (n : Nat) (L : Nat → Nat) (row : Nat) (hr2 : row ≤ 10) (hg : gw n) (hL : ∀ j, j ≤ wl n → f (11 * row + j) = nI (L j)) (hLb : ∀ j, j ≤ wl n → L j ≤ 30) : Met l yX1_leastInRow wsX1_leastInRow { frames := 2, cells := 0, slots := 0, locals := 43 } (va_Pc [.ref g, .int (nI row), .ref o] (qP D ([(g, .inr (1, [.ref gr])), (gr, .inr (2, [.ref ce])), (ce, .inl (cG, 121, .inl f)), (o, .inr (7, [.long (lN n), .int (nI (wl n)), .long (lN (al n))]))]) [(cG, .int)])) (vp_Si (fun rv : Int32 => rv = nI (rmin L (wl n)))) 0 0 (fun _ => False) := by
  refine Met.ofW (cc := cX1_leastInRow) (maxL := 5) (ret := (some .int)) (by decide) rfl ?_
  intro pM eM s mi9 argsM belowM methM cM sM B hml hv
  obtain ⟨rfl, hR, hK, hNw⟩ := hv
  have hx := B.exec
  have hb := B.bytes
  have hr := B.returns
  have hts := atoms_spec (ws := wsX1_leastInRow) B.pre
  have hown : s.vm.findClass RX1 = some mi9.cls := findClass_of_methodNamed B.named
  have hlocks := B.notSynchronized
  have hS : va_S (fun _ => False) s.heap s.heap [] := va_S.rf
  have hR : va_P D vwCl ([(g, .inr (1, [.ref gr])), (gr, .inr (2, [.ref ce])), (ce, .inl (cG, 121, .inl f)), (o, .inr (7, [.long (lN n), .int (nI (wl n)), .long (lN (al n))]))]) s.heap := hR
  have hl := lv_entry ([.ref g, .int (nI row), .ref o]) (n := 5) (Nat.le_of_ble_eq_true rfl)
  rw [lg_entry_eq]
  generalize (lg_sl ([.ref g, .int (nI row), .ref o]) ++ List.replicate (5 - (lg_sl ([.ref g, .int (nI row), .ref o])).length) Slot.unset).toArray = ls at hl ⊢
  have hl : lv_has ls 5 [(0, .ref g), (1, .int (nI row)), (2, .ref o)] := hl
  have hwl := gw_wl hg
  refine lv_aload_n hx hb dX1_leastInRow_0 rfl (lv_at hl 0 rfl) ?_
  refine va_get (D := D) (own := RX1) (ref := "FuzzyFens$Gauge") (ci := 1) (v := .ref gr) (C := RX1) (T := TX1) (N := 1) hx hb hts iX1_leastInRow_X1 hown hK hR 0 rfl rfl 0 (by decide) (hts (.fieldLink RX1 10 "FuzzyFens$Gauge" "grid" "LFuzzyFens$Grid;") (List.mem_of_getElem? (i := 1) rfl)) (fun _ h9 => h9) rfl dX1_leastInRow_1 ?_
  refine lv_iload_n hx hb dX1_leastInRow_4 rfl (lv_at hl 1 rfl) ?_
  refine lv_iconst (v := nI 0) hx hb dX1_leastInRow_5 (by decide) ?_
  refine vp_callSi (W.runV (As := [.int (nI row), .int (nI 0)]) (rest := []) ⟨hx, hb, hml, hown, hts⟩ (c_X2_at (l := l) (D := D) (g := gr) (ce := ce) (cA := cG) (f := f) (r := row) (k := 0) (hr1 := by omega) (hk1 := by omega)) (cwV 2 hts gX1_leastInRow_X2_at rfl rfl rfl (by decide +kernel) ⟨Nat.le_of_ble_eq_true rfl, Nat.le_of_ble_eq_true rfl⟩) ⟨qP_blind, (va_recv hK hR (ci := 2) (q0 := 1) rfl rfl), (qP_of (hR.sub (ws' := [(gr, .inr (2, [.ref ce])), (ce, .inl (cG, 121, .inl f))]) [1, 2] rfl) (hK.sub (tys' := [(cG, .int)]) [0] rfl) hNw)⟩ rfl rfl hl.1 rfl (lv_room (Nat.le_of_ble_eq_true rfl)) dX1_leastInRow_6 ⟨Nat.le_of_ble_eq_true rfl, Nat.le_of_ble_eq_true rfl⟩) (fun r_1 hr_1 => ?_)
  subst hr_1
  refine q_cvi (show (f (11 * row + 0)) = (nI (rmin L 0)) from hL 0 (by omega)) ?_
  refine lv_istore_n (lv' := [(3, .int (nI (rmin L 0))), (0, .ref g), (1, .int (nI row)), (2, .ref o)]) hx hb dX1_leastInRow_9 rfl hl (by decide) rfl (fun ls hl => ?_)
  refine lv_iconst (v := nI 1) hx hb dX1_leastInRow_10 (by decide) ?_
  refine lv_istore (lv' := [(4, .int (nI 1)), (3, .int (nI (rmin L 0))), (0, .ref g), (1, .int (nI row)), (2, .ref o)]) hx hb dX1_leastInRow_11 hl (by decide) rfl (fun ls hl => ?_)
  refine q_loop (fun (x : (Nat)) (Hc : Heap) (Lc : List Loc) (ls : Array Slot) => match x with | col => (1 ≤ col ∧ col ≤ wl n + 1) ∧ s.heap = Hc ∧ [] = Lc ∧ lv_has ls 5 [(4, .int (nI col)), (3, .int (nI (rmin L (col - 1)))), (0, .ref g), (1, .int (nI row)), (2, .ref o)]) (fun (x : (Nat)) => match x with | col => wl n + 1 - col) 1 ⟨(by omega), rfl, rfl, (lv_sub hl [0, 1, 2, 3, 4] rfl)⟩ ?_
  clear hl
  rintro col Hc Lc ls hI ih_13
  obtain ⟨hc, rfl, rfl, hl⟩ := hI
  refine lv_iload hx hb dX1_leastInRow_13 (lv_at hl 0 rfl) ?_
  refine lv_aload_n hx hb dX1_leastInRow_15 rfl (lv_at hl 4 rfl) ?_
  refine va_getN (host := "FuzzyFens") (D := D) (own := RX1) (ref := "FuzzyFens$Word") (ci := 7) (v := .int (nI (wl n))) (C := RX8) (T := TX8) (N := 3) hx hb hts iX1_leastInRow_X8 hown hK hR 3 rfl rfl 1 (by decide) (va_Nw.use rfl (hNw.1 ("FuzzyFens$Gauge", 20, "FuzzyFens$Word", "length", "I") (List.mem_of_getElem? (i := 2) rfl))) (fun _ h9 => h9) rfl dX1_leastInRow_16 ?_
  refine q_icmp_gt (a := col) (b := wl n) (tgt := 43) hx hb dX1_leastInRow_19 (by decide) (by omega) (by omega) (fun c_19 => ?_) (fun c_19 => ?_)
  · skip
    refine lv_iload_n hx hb dX1_leastInRow_43 rfl (lv_at hl 1 rfl) ?_
    exact W.iret (v := nI (rmin L (col - 1))) hx hb hr (fun t9 ht _ => ⟨nI (rmin L (col - 1)), rfl, (by rw [show col - 1 = wl n by omega]), ht⟩) (fun _ h => absurd h List.not_mem_nil) dX1_leastInRow_44
  · skip
    refine lv_iload_n hx hb dX1_leastInRow_22 rfl (lv_at hl 1 rfl) ?_
    refine lv_aload_n hx hb dX1_leastInRow_23 rfl (lv_at hl 2 rfl) ?_
    refine va_get (D := D) (own := RX1) (ref := "FuzzyFens$Gauge") (ci := 1) (v := .ref gr) (C := RX1) (T := TX1) (N := 1) hx hb hts iX1_leastInRow_X1 hown hK hR 0 rfl rfl 0 (by decide) (hts (.fieldLink RX1 10 "FuzzyFens$Gauge" "grid" "LFuzzyFens$Grid;") (List.mem_of_getElem? (i := 1) rfl)) (fun _ h9 => h9) rfl dX1_leastInRow_24 ?_
    refine lv_iload_n hx hb dX1_leastInRow_27 rfl (lv_at hl 3 rfl) ?_
    refine lv_iload hx hb dX1_leastInRow_28 (lv_at hl 0 rfl) ?_
    refine vp_callSi (W.runV (As := [.int (nI row), .int (nI col)]) (rest := [.int (nI (rmin L (col - 1)))]) ⟨hx, hb, hml, hown, hts⟩ (c_X2_at (l := l) (D := D) (g := gr) (ce := ce) (cA := cG) (f := f) (r := row) (k := col) (hr1 := by omega) (hk1 := by omega)) (cwV 2 hts gX1_leastInRow_X2_at rfl rfl rfl (by decide +kernel) ⟨Nat.le_of_ble_eq_true rfl, Nat.le_of_ble_eq_true rfl⟩) ⟨qP_blind, (va_recv hK hR (ci := 2) (q0 := 1) rfl rfl), (qP_of (hR.sub (ws' := [(gr, .inr (2, [.ref ce])), (ce, .inl (cG, 121, .inl f))]) [1, 2] rfl) (hK.sub (tys' := [(cG, .int)]) [0] rfl) hNw)⟩ rfl rfl hl.1 rfl (lv_room (Nat.le_of_ble_eq_true rfl)) dX1_leastInRow_30 ⟨Nat.le_of_ble_eq_true rfl, Nat.le_of_ble_eq_true rfl⟩) (fun r_2 hr_2 => ?_)
    subst hr_2
    refine q_cvi (show (f (11 * row + col)) = (nI (L col)) from hL col (by omega)) ?_
    refine va_mmin hx hb (hml.trans hl.1.symm) hown (hts (.methodLink RX1 42 Lib.Math.min.name) (List.mem_of_getElem? (i := 2) rfl)) (hts (.static Lib.Math.min.name) (List.mem_of_getElem? (i := 3) rfl)) (hts (.initialized "java/lang/Math") (List.mem_of_getElem? (i := 4) rfl)) (hts (.code Lib.Math.min.name Lib.Math.min.code 2 (some .int)) (List.mem_of_getElem? (i := 5) rfl)) (Nat.le_of_ble_eq_true rfl) (Nat.le_of_ble_eq_true rfl) (Nat.le_of_ble_eq_true rfl) (Nat.le_of_ble_eq_true rfl) dX1_leastInRow_33 ?_
    refine q_cvi (q_min (by have := rmin_le L (col - 1); have := hLb 0 (by omega); omega) (by have := hLb col (by omega); omega)) ?_
    refine q_cvi (show (nI (min (rmin L (col - 1)) (L col))) = (nI (rmin L col)) from (by obtain ⟨k, rfl⟩ : ∃ k, col = k + 1 := ⟨col - 1, by omega⟩; rfl)) ?_
    refine lv_istore_n (lv' := [(3, .int (nI (rmin L col))), (4, .int (nI col)), (0, .ref g), (1, .int (nI row)), (2, .ref o)]) hx hb dX1_leastInRow_36 rfl hl (by decide) rfl (fun ls hl => ?_)
    refine lv_iinc (v := nI (col + 1)) (lv' := [(4, .int (nI (col + 1))), (3, .int (nI (rmin L col))), (0, .ref g), (1, .int (nI row)), (2, .ref o)]) hx hb dX1_leastInRow_37 hl (k := 1) rfl (q_inc (k := 1) (by omega)) (by decide) rfl (fun ls hl => ?_)
    refine lv_goto (tgt := 13) hx hb dX1_leastInRow_40 (by decide) ?_
    exact ih_13 (col + 1) _ _ _ ⟨(by omega), rfl, rfl, (lv_sub hl [0, 1, 2, 3, 4] rfl)⟩ (by show wl n + 1 - (col + 1) < wl n + 1 - col; omega)

set_option maxRecDepth 20000 in
theorem iX1_packedRow_X1 : ∀ w ∈ wsX10, w ∈ wsX1_packedRow := by decide +kernel
set_option maxRecDepth 20000 in
theorem iX1_packedRow_X8 : ∀ w ∈ wsX80, w ∈ wsX1_packedRow := by decide +kernel
set_option maxHeartbeats 4000000 in
set_option maxRecDepth 100000 in
/-- Gauge.packedRow -/
theorem c_X1_packedRow (l : Launch) (D : va_G) (g : Nat) (gr : Nat) (ce : Nat) (cG : ClassId) (f : Nat → Int32) (o : Nat) (n : Nat) (L : Nat → Nat) (row : Nat) (cap : Nat) (hr2 : row ≤ 10) (hg : gw n) (hL : ∀ j, j ≤ wl n → f (11 * row + j) = nI (L j)) (hLb : ∀ j, j ≤ wl n → L j ≤ 30) (hcap : cap < 8) : Met l yX1_packedRow wsX1_packedRow { frames := 2, cells := 0, slots := 0, locals := 43 } (va_Pc [.ref g, .int (nI row), .ref o, .int (nI cap)] (qP D ([(g, .inr (1, [.ref gr])), (gr, .inr (2, [.ref ce])), (ce, .inl (cG, 121, .inl f)), (o, .inr (7, [.long (lN n), .int (nI (wl n)), .long (lN (al n))]))]) [(cG, .int)])) (vp_Sl (fun rv : Int64 => rv = lN (pck L cap (wl n + 1)))) 0 0 (fun _ => False) := by
  refine Met.ofW (cc := cX1_packedRow) (maxL := 7) (ret := (some .long)) (by decide) rfl ?_
  intro pM eM s mi9 argsM belowM methM cM sM B hml hv
  obtain ⟨rfl, hR, hK, hNw⟩ := hv
  have hx := B.exec
  have hb := B.bytes
  have hr := B.returns
  have hts := atoms_spec (ws := wsX1_packedRow) B.pre
  have hown : s.vm.findClass RX1 = some mi9.cls := findClass_of_methodNamed B.named
  have hlocks := B.notSynchronized
  have hS : va_S (fun _ => False) s.heap s.heap [] := va_S.rf
  have hR : va_P D vwCl ([(g, .inr (1, [.ref gr])), (gr, .inr (2, [.ref ce])), (ce, .inl (cG, 121, .inl f)), (o, .inr (7, [.long (lN n), .int (nI (wl n)), .long (lN (al n))]))]) s.heap := hR
  have hl := lv_entry ([.ref g, .int (nI row), .ref o, .int (nI cap)]) (n := 7) (Nat.le_of_ble_eq_true rfl)
  rw [lg_entry_eq]
  generalize (lg_sl ([.ref g, .int (nI row), .ref o, .int (nI cap)]) ++ List.replicate (7 - (lg_sl ([.ref g, .int (nI row), .ref o, .int (nI cap)])).length) Slot.unset).toArray = ls at hl ⊢
  have hl : lv_has ls 7 [(0, .ref g), (1, .int (nI row)), (2, .ref o), (3, .int (nI cap))] := hl
  have hwl := gw_wl hg
  refine lv_lconst (v := lN 0) hx hb dX1_packedRow_0 (by decide) ?_
  refine lv_lstore (lv' := [(4, .long (lN 0)), (0, .ref g), (1, .int (nI row)), (2, .ref o), (3, .int (nI cap))]) hx hb dX1_packedRow_1 hl (by decide) rfl (fun ls hl => ?_)
  refine lv_iconst (v := nI 0) hx hb dX1_packedRow_3 (by decide) ?_
  refine lv_istore (lv' := [(6, .int (nI 0)), (4, .long (lN 0)), (0, .ref g), (1, .int (nI row)), (2, .ref o), (3, .int (nI cap))]) hx hb dX1_packedRow_4 hl (by decide) rfl (fun ls hl => ?_)
  refine q_loop (fun (x : (Nat)) (Hc : Heap) (Lc : List Loc) (ls : Array Slot) => match x with | col => (col ≤ wl n + 1) ∧ s.heap = Hc ∧ [] = Lc ∧ lv_has ls 7 [(6, .int (nI col)), (4, .long (lN (pck L cap col))), (0, .ref g), (1, .int (nI row)), (2, .ref o), (3, .int (nI cap))]) (fun (x : (Nat)) => match x with | col => wl n + 1 - col) 0 ⟨(by omega), rfl, rfl, (lv_sub hl [0, 1, 2, 3, 4, 5] rfl)⟩ ?_
  clear hl
  rintro col Hc Lc ls hI ih_6
  obtain ⟨hc, rfl, rfl, hl⟩ := hI
  refine lv_iload hx hb dX1_packedRow_6 (lv_at hl 0 rfl) ?_
  refine lv_aload_n hx hb dX1_packedRow_8 rfl (lv_at hl 4 rfl) ?_
  refine va_getN (host := "FuzzyFens") (D := D) (own := RX1) (ref := "FuzzyFens$Word") (ci := 7) (v := .int (nI (wl n))) (C := RX8) (T := TX8) (N := 3) hx hb hts iX1_packedRow_X8 hown hK hR 3 rfl rfl 1 (by decide) (va_Nw.use rfl (hNw.1 ("FuzzyFens$Gauge", 20, "FuzzyFens$Word", "length", "I") (List.mem_of_getElem? (i := 2) rfl))) (fun _ h9 => h9) rfl dX1_packedRow_9 ?_
  refine q_icmp_gt (a := col) (b := wl n) (tgt := 43) hx hb dX1_packedRow_12 (by decide) (by omega) (by omega) (fun c_12 => ?_) (fun c_12 => ?_)
  · skip
    refine lv_lload hx hb dX1_packedRow_43 (lv_at hl 1 rfl) ?_
    exact W.lret (v := lN (pck L cap col)) hx hb hr (fun t9 ht _ => ⟨lN (pck L cap col), rfl, (by rw [show col = wl n + 1 by omega]), ht⟩) (fun _ h => absurd h List.not_mem_nil) dX1_packedRow_45
  · skip
    refine lv_lload hx hb dX1_packedRow_15 (lv_at hl 1 rfl) ?_
    refine lv_iconst (v := nI 3) hx hb dX1_packedRow_17 (by decide) ?_
    refine lv_lshl (v := lN (8 * (pck L cap col))) hx hb dX1_packedRow_18 q_shl3 ?_
    refine lv_aload_n hx hb dX1_packedRow_19 rfl (lv_at hl 2 rfl) ?_
    refine va_get (D := D) (own := RX1) (ref := "FuzzyFens$Gauge") (ci := 1) (v := .ref gr) (C := RX1) (T := TX1) (N := 1) hx hb hts iX1_packedRow_X1 hown hK hR 0 rfl rfl 0 (by decide) (hts (.fieldLink RX1 10 "FuzzyFens$Gauge" "grid" "LFuzzyFens$Grid;") (List.mem_of_getElem? (i := 1) rfl)) (fun _ h9 => h9) rfl dX1_packedRow_20 ?_
    refine lv_iload_n hx hb dX1_packedRow_23 rfl (lv_at hl 3 rfl) ?_
    refine lv_iload hx hb dX1_packedRow_24 (lv_at hl 0 rfl) ?_
    refine vp_callSi (W.runV (As := [.int (nI row), .int (nI col)]) (rest := [.long (lN (8 * (pck L cap col)))]) ⟨hx, hb, hml, hown, hts⟩ (c_X2_at (l := l) (D := D) (g := gr) (ce := ce) (cA := cG) (f := f) (r := row) (k := col) (hr1 := by omega) (hk1 := by omega)) (cwV 2 hts gX1_packedRow_X2_at rfl rfl rfl (by decide +kernel) ⟨Nat.le_of_ble_eq_true rfl, Nat.le_of_ble_eq_true rfl⟩) ⟨qP_blind, (va_recv hK hR (ci := 2) (q0 := 1) rfl rfl), (qP_of (hR.sub (ws' := [(gr, .inr (2, [.ref ce])), (ce, .inl (cG, 121, .inl f))]) [1, 2] rfl) (hK.sub (tys' := [(cG, .int)]) [0] rfl) hNw)⟩ rfl rfl hl.1 rfl (lv_room (Nat.le_of_ble_eq_true rfl)) dX1_packedRow_26 ⟨Nat.le_of_ble_eq_true rfl, Nat.le_of_ble_eq_true rfl⟩) (fun r_1 hr_1 => ?_)
    subst hr_1
    refine q_cvi (show (f (11 * row + col)) = (nI (L col)) from hL col (by omega)) ?_
    refine lv_iload_n hx hb dX1_packedRow_29 rfl (lv_at hl 5 rfl) ?_
    refine va_mmin hx hb (hml.trans hl.1.symm) hown (hts (.methodLink RX1 42 Lib.Math.min.name) (List.mem_of_getElem? (i := 2) rfl)) (hts (.static Lib.Math.min.name) (List.mem_of_getElem? (i := 3) rfl)) (hts (.initialized "java/lang/Math") (List.mem_of_getElem? (i := 4) rfl)) (hts (.code Lib.Math.min.name Lib.Math.min.code 2 (some .int)) (List.mem_of_getElem? (i := 5) rfl)) (Nat.le_of_ble_eq_true rfl) (Nat.le_of_ble_eq_true rfl) (Nat.le_of_ble_eq_true rfl) (Nat.le_of_ble_eq_true rfl) dX1_packedRow_30 ?_
    refine q_cvi (q_min (by have := hLb col (by omega); omega) (by omega)) ?_
    refine lv_i2l (v := lN (min (L col) cap)) hx hb dX1_packedRow_33 (nI_l (by omega)) ?_
    refine lv_lor hx hb dX1_packedRow_34 ?_
    refine q_cvl (show ((lN (8 * (pck L cap col))) ||| (lN (min (L col) cap))) = (lN (pck L cap (col + 1))) from (q_or3 (by omega) (by have h1 := pck_lt L hcap col; have h2 : 8 ^ col ≤ 8 ^ 10 := Nat.pow_le_pow_right (by decide) (by omega); omega))) ?_
    refine lv_lstore (lv' := [(4, .long (lN (pck L cap (col + 1)))), (6, .int (nI col)), (0, .ref g), (1, .int (nI row)), (2, .ref o), (3, .int (nI cap))]) hx hb dX1_packedRow_35 hl (by decide) rfl (fun ls hl => ?_)
    refine lv_iinc (v := nI (col + 1)) (lv' := [(6, .int (nI (col + 1))), (4, .long (lN (pck L cap (col + 1)))), (0, .ref g), (1, .int (nI row)), (2, .ref o), (3, .int (nI cap))]) hx hb dX1_packedRow_37 hl (k := 1) rfl (q_inc (k := 1) (by omega)) (by decide) rfl (fun ls hl => ?_)
    refine lv_goto (tgt := 6) hx hb dX1_packedRow_40 (by decide) ?_
    exact ih_6 (col + 1) _ _ _ ⟨(by omega), rfl, rfl, (lv_sub hl [0, 1, 2, 3, 4, 5] rfl)⟩ (by show wl n + 1 - (col + 1) < wl n + 1 - col; omega)

set_option maxRecDepth 20000 in
theorem iX1_mostShared_X1 : ∀ w ∈ wsX10, w ∈ wsX1_mostShared := by decide +kernel
set_option maxHeartbeats 4000000 in
set_option maxRecDepth 100000 in
/-- Gauge.mostShared -/
theorem c_X1_mostShared (l : Launch) (D : va_G) (g : Nat) (gr : Nat) (ce : Nat) (cG : ClassId) (f : Nat → Int32) (w : Nat) (v : Nat) (a : Nat) (b : Nat) (row : Nat) (col : Nat) (hga : gw a) (hgb : gw b) (hrw : row ≤ wl a) (hcl : col ≤ wl b) (hL : ∀ i j, j ≤ wl b → i < row ∨ (i = row ∧ j < col) → f (11 * i + j) = nI (lcs (ltz a) (ltz b) i j)) : Met l yX1_mostShared wsX1_mostShared { frames := 2, cells := 0, slots := 0, locals := 43 } (va_Pc [.ref g, .ref w, .ref v, .int (nI row), .int (nI col)] (qP D ([(g, .inr (1, [.ref gr])), (gr, .inr (2, [.ref ce])), (ce, .inl (cG, 121, .inl f)), (w, .inr (7, [.long (lN a), .int (nI (wl a)), .long (lN (al a))])), (v, .inr (7, [.long (lN b), .int (nI (wl b)), .long (lN (al b))]))]) [(cG, .int)])) (vp_Si (fun rv : Int32 => rv = nI (lcs (ltz a) (ltz b) row col))) 0 0 (fun _ => False) := by
  refine Met.ofW (cc := cX1_mostShared) (maxL := 5) (ret := (some .int)) (by decide) rfl ?_
  intro pM eM s mi9 argsM belowM methM cM sM B hml hv
  obtain ⟨rfl, hR, hK, hNw⟩ := hv
  have hx := B.exec
  have hb := B.bytes
  have hr := B.returns
  have hts := atoms_spec (ws := wsX1_mostShared) B.pre
  have hown : s.vm.findClass RX1 = some mi9.cls := findClass_of_methodNamed B.named
  have hlocks := B.notSynchronized
  have hS : va_S (fun _ => False) s.heap s.heap [] := va_S.rf
  have hR : va_P D vwCl ([(g, .inr (1, [.ref gr])), (gr, .inr (2, [.ref ce])), (ce, .inl (cG, 121, .inl f)), (w, .inr (7, [.long (lN a), .int (nI (wl a)), .long (lN (al a))])), (v, .inr (7, [.long (lN b), .int (nI (wl b)), .long (lN (al b))]))]) s.heap := hR
  have hl := lv_entry ([.ref g, .ref w, .ref v, .int (nI row), .int (nI col)]) (n := 5) (Nat.le_of_ble_eq_true rfl)
  rw [lg_entry_eq]
  generalize (lg_sl ([.ref g, .ref w, .ref v, .int (nI row), .int (nI col)]) ++ List.replicate (5 - (lg_sl ([.ref g, .ref w, .ref v, .int (nI row), .int (nI col)])).length) Slot.unset).toArray = ls at hl ⊢
  have hl : lv_has ls 5 [(0, .ref g), (1, .ref w), (2, .ref v), (3, .int (nI row)), (4, .int (nI col))] := hl
  have hwa := gw_wl hga
  have hwb := gw_wl hgb
  refine lv_iload_n hx hb dX1_mostShared_0 rfl (lv_at hl 3 rfl) ?_
  refine q_if_eq (a := row) (tgt := 9) hx hb dX1_mostShared_1 (by decide) (by omega) (fun c_1 => ?_) (fun c_1 => ?_)
  · skip
    refine lv_iconst (v := nI 0) hx hb dX1_mostShared_9 (by decide) ?_
    exact W.iret (v := nI 0) hx hb hr (fun t9 ht _ => ⟨nI 0, rfl, (by rw [c_1, lcs_0]), ht⟩) (fun _ h => absurd h List.not_mem_nil) dX1_mostShared_10
  · skip
    refine lv_iload hx hb dX1_mostShared_4 (lv_at hl 4 rfl) ?_
    refine q_if_ne (a := col) (tgt := 11) hx hb dX1_mostShared_6 (by decide) (by omega) (fun c_6 => ?_) (fun c_6 => ?_)
    · skip
      refine lv_aload_n hx hb dX1_mostShared_11 rfl (lv_at hl 1 rfl) ?_
      refine lv_iload_n hx hb dX1_mostShared_12 rfl (lv_at hl 3 rfl) ?_
      refine lv_iconst (v := nI 1) hx hb dX1_mostShared_13 (by decide) ?_
      refine q_isub (d := row - 1) hx hb dX1_mostShared_14 (by omega) ?_
      refine vp_callSi (W.runV (As := [.int (nI (row - 1))]) (rest := []) ⟨hx, hb, hml, hown, hts⟩ (c_X8_letterAt (l := l) (D := D) (w := w) (n := a) (p := row - 1) (hg := hga) (hp := by omega)) (cwV 1 hts gX1_mostShared_X8_letterAt rfl rfl rfl (by decide +kernel) ⟨Nat.le_of_ble_eq_true rfl, Nat.le_of_ble_eq_true rfl⟩) ⟨qP_blind, (va_recv hK hR (ci := 7) (q0 := 3) rfl rfl), (qP_of (hR.sub (ws' := [(w, .inr (7, [.long (lN a), .int (nI (wl a)), .long (lN (al a))]))]) [3] rfl) (hK.sub (tys' := []) [] rfl) hNw)⟩ rfl rfl hl.1 rfl (lv_room (Nat.le_of_ble_eq_true rfl)) dX1_mostShared_15 ⟨Nat.le_of_ble_eq_true rfl, Nat.le_of_ble_eq_true rfl⟩) (fun r_1 hr_1 => ?_)
      subst hr_1
      refine lv_aload_n hx hb dX1_mostShared_18 rfl (lv_at hl 2 rfl) ?_
      refine lv_iload hx hb dX1_mostShared_19 (lv_at hl 4 rfl) ?_
      refine lv_iconst (v := nI 1) hx hb dX1_mostShared_21 (by decide) ?_
      refine q_isub (d := col - 1) hx hb dX1_mostShared_22 (by omega) ?_
      refine vp_callSi (W.runV (As := [.int (nI (col - 1))]) (rest := [.int (nI (ltz a (row - 1)))]) ⟨hx, hb, hml, hown, hts⟩ (c_X8_letterAt (l := l) (D := D) (w := v) (n := b) (p := col - 1) (hg := hgb) (hp := by omega)) (cwV 1 hts gX1_mostShared_X8_letterAt rfl rfl rfl (by decide +kernel) ⟨Nat.le_of_ble_eq_true rfl, Nat.le_of_ble_eq_true rfl⟩) ⟨qP_blind, (va_recv hK hR (ci := 7) (q0 := 4) rfl rfl), (qP_of (hR.sub (ws' := [(v, .inr (7, [.long (lN b), .int (nI (wl b)), .long (lN (al b))]))]) [4] rfl) (hK.sub (tys' := []) [] rfl) hNw)⟩ rfl rfl hl.1 rfl (lv_room (Nat.le_of_ble_eq_true rfl)) dX1_mostShared_23 ⟨Nat.le_of_ble_eq_true rfl, Nat.le_of_ble_eq_true rfl⟩) (fun r_2 hr_2 => ?_)
      subst hr_2
      refine q_icmp_ne (a := ltz a (row - 1)) (b := ltz b (col - 1)) (tgt := 46) hx hb dX1_mostShared_26 (by decide) (by have := ltz_32 a (row - 1); omega) (by have := ltz_32 b (col - 1); omega) (fun c_26 => ?_) (fun c_26 => ?_)
      · skip
        refine lv_aload_n hx hb dX1_mostShared_46 rfl (lv_at hl 0 rfl) ?_
        refine va_get (D := D) (own := RX1) (ref := "FuzzyFens$Gauge") (ci := 1) (v := .ref gr) (C := RX1) (T := TX1) (N := 1) hx hb hts iX1_mostShared_X1 hown hK hR 0 rfl rfl 0 (by decide) (hts (.fieldLink RX1 10 "FuzzyFens$Gauge" "grid" "LFuzzyFens$Grid;") (List.mem_of_getElem? (i := 1) rfl)) (fun _ h9 => h9) rfl dX1_mostShared_47 ?_
        refine lv_iload_n hx hb dX1_mostShared_50 rfl (lv_at hl 3 rfl) ?_
        refine lv_iconst (v := nI 1) hx hb dX1_mostShared_51 (by decide) ?_
        refine q_isub (d := row - 1) hx hb dX1_mostShared_52 (by omega) ?_
        refine lv_iload hx hb dX1_mostShared_53 (lv_at hl 4 rfl) ?_
        refine vp_callSi (W.runV (As := [.int (nI (row - 1)), .int (nI col)]) (rest := []) ⟨hx, hb, hml, hown, hts⟩ (c_X2_at (l := l) (D := D) (g := gr) (ce := ce) (cA := cG) (f := f) (r := row - 1) (k := col) (hr1 := by omega) (hk1 := by omega)) (cwV 2 hts gX1_mostShared_X2_at rfl rfl rfl (by decide +kernel) ⟨Nat.le_of_ble_eq_true rfl, Nat.le_of_ble_eq_true rfl⟩) ⟨qP_blind, (va_recv hK hR (ci := 2) (q0 := 1) rfl rfl), (qP_of (hR.sub (ws' := [(gr, .inr (2, [.ref ce])), (ce, .inl (cG, 121, .inl f))]) [1, 2] rfl) (hK.sub (tys' := [(cG, .int)]) [0] rfl) hNw)⟩ rfl rfl hl.1 rfl (lv_room (Nat.le_of_ble_eq_true rfl)) dX1_mostShared_55 ⟨Nat.le_of_ble_eq_true rfl, Nat.le_of_ble_eq_true rfl⟩) (fun r_3 hr_3 => ?_)
        subst hr_3
        refine q_cvi (show (f (11 * (row - 1) + col)) = (nI (lcs (ltz a) (ltz b) (row - 1) col)) from hL _ _ (by omega) (by omega)) ?_
        refine lv_aload_n hx hb dX1_mostShared_58 rfl (lv_at hl 0 rfl) ?_
        refine va_get (D := D) (own := RX1) (ref := "FuzzyFens$Gauge") (ci := 1) (v := .ref gr) (C := RX1) (T := TX1) (N := 1) hx hb hts iX1_mostShared_X1 hown hK hR 0 rfl rfl 0 (by decide) (hts (.fieldLink RX1 10 "FuzzyFens$Gauge" "grid" "LFuzzyFens$Grid;") (List.mem_of_getElem? (i := 1) rfl)) (fun _ h9 => h9) rfl dX1_mostShared_59 ?_
        refine lv_iload_n hx hb dX1_mostShared_62 rfl (lv_at hl 3 rfl) ?_
        refine lv_iload hx hb dX1_mostShared_63 (lv_at hl 4 rfl) ?_
        refine lv_iconst (v := nI 1) hx hb dX1_mostShared_65 (by decide) ?_
        refine q_isub (d := col - 1) hx hb dX1_mostShared_66 (by omega) ?_
        refine vp_callSi (W.runV (As := [.int (nI row), .int (nI (col - 1))]) (rest := [.int (nI (lcs (ltz a) (ltz b) (row - 1) col))]) ⟨hx, hb, hml, hown, hts⟩ (c_X2_at (l := l) (D := D) (g := gr) (ce := ce) (cA := cG) (f := f) (r := row) (k := col - 1) (hr1 := by omega) (hk1 := by omega)) (cwV 2 hts gX1_mostShared_X2_at rfl rfl rfl (by decide +kernel) ⟨Nat.le_of_ble_eq_true rfl, Nat.le_of_ble_eq_true rfl⟩) ⟨qP_blind, (va_recv hK hR (ci := 2) (q0 := 1) rfl rfl), (qP_of (hR.sub (ws' := [(gr, .inr (2, [.ref ce])), (ce, .inl (cG, 121, .inl f))]) [1, 2] rfl) (hK.sub (tys' := [(cG, .int)]) [0] rfl) hNw)⟩ rfl rfl hl.1 rfl (lv_room (Nat.le_of_ble_eq_true rfl)) dX1_mostShared_67 ⟨Nat.le_of_ble_eq_true rfl, Nat.le_of_ble_eq_true rfl⟩) (fun r_4 hr_4 => ?_)
        subst hr_4
        refine q_cvi (show (f (11 * row + (col - 1))) = (nI (lcs (ltz a) (ltz b) row (col - 1))) from hL _ _ (by omega) (by omega)) ?_
        refine va_mmax hx hb (hml.trans hl.1.symm) hown (hts (.methodLink RX1 54 Lib.Math.max.name) (List.mem_of_getElem? (i := 2) rfl)) (hts (.static Lib.Math.max.name) (List.mem_of_getElem? (i := 3) rfl)) (hts (.initialized "java/lang/Math") (List.mem_of_getElem? (i := 4) rfl)) (hts (.code Lib.Math.max.name Lib.Math.max.code 2 (some .int)) (List.mem_of_getElem? (i := 5) rfl)) (Nat.le_of_ble_eq_true rfl) (Nat.le_of_ble_eq_true rfl) (Nat.le_of_ble_eq_true rfl) (Nat.le_of_ble_eq_true rfl) dX1_mostShared_70 ?_
        refine q_cvi (q_max (by have := lcs_le (ltz a) (ltz b) (row - 1) col; have := lcs_le (ltz a) (ltz b) row (col - 1); omega) (by have := lcs_le (ltz a) (ltz b) (row - 1) col; have := lcs_le (ltz a) (ltz b) row (col - 1); omega)) ?_
        exact W.iret (v := nI (max (lcs (ltz a) (ltz b) (row - 1) col) (lcs (ltz a) (ltz b) row (col - 1)))) hx hb hr (fun t9 ht _ => ⟨nI (max (lcs (ltz a) (ltz b) (row - 1) col) (lcs (ltz a) (ltz b) row (col - 1))), rfl, (by obtain ⟨i, rfl⟩ : ∃ k, row = k + 1 := ⟨row - 1, by omega⟩; obtain ⟨j, rfl⟩ : ∃ k, col = k + 1 := ⟨col - 1, by omega⟩; rw [lcs_ss]; exact congrArg nI (if_neg c_26).symm), ht⟩) (fun _ h => absurd h List.not_mem_nil) dX1_mostShared_73
      · skip
        refine lv_aload_n hx hb dX1_mostShared_29 rfl (lv_at hl 0 rfl) ?_
        refine va_get (D := D) (own := RX1) (ref := "FuzzyFens$Gauge") (ci := 1) (v := .ref gr) (C := RX1) (T := TX1) (N := 1) hx hb hts iX1_mostShared_X1 hown hK hR 0 rfl rfl 0 (by decide) (hts (.fieldLink RX1 10 "FuzzyFens$Gauge" "grid" "LFuzzyFens$Grid;") (List.mem_of_getElem? (i := 1) rfl)) (fun _ h9 => h9) rfl dX1_mostShared_30 ?_
        refine lv_iload_n hx hb dX1_mostShared_33 rfl (lv_at hl 3 rfl) ?_
        refine lv_iconst (v := nI 1) hx hb dX1_mostShared_34 (by decide) ?_
        refine q_isub (d := row - 1) hx hb dX1_mostShared_35 (by omega) ?_
        refine lv_iload hx hb dX1_mostShared_36 (lv_at hl 4 rfl) ?_
        refine lv_iconst (v := nI 1) hx hb dX1_mostShared_38 (by decide) ?_
        refine q_isub (d := col - 1) hx hb dX1_mostShared_39 (by omega) ?_
        refine vp_callSi (W.runV (As := [.int (nI (row - 1)), .int (nI (col - 1))]) (rest := []) ⟨hx, hb, hml, hown, hts⟩ (c_X2_at (l := l) (D := D) (g := gr) (ce := ce) (cA := cG) (f := f) (r := row - 1) (k := col - 1) (hr1 := by omega) (hk1 := by omega)) (cwV 2 hts gX1_mostShared_X2_at rfl rfl rfl (by decide +kernel) ⟨Nat.le_of_ble_eq_true rfl, Nat.le_of_ble_eq_true rfl⟩) ⟨qP_blind, (va_recv hK hR (ci := 2) (q0 := 1) rfl rfl), (qP_of (hR.sub (ws' := [(gr, .inr (2, [.ref ce])), (ce, .inl (cG, 121, .inl f))]) [1, 2] rfl) (hK.sub (tys' := [(cG, .int)]) [0] rfl) hNw)⟩ rfl rfl hl.1 rfl (lv_room (Nat.le_of_ble_eq_true rfl)) dX1_mostShared_40 ⟨Nat.le_of_ble_eq_true rfl, Nat.le_of_ble_eq_true rfl⟩) (fun r_5 hr_5 => ?_)
        subst hr_5
        refine q_cvi (show (f (11 * (row - 1) + (col - 1))) = (nI (lcs (ltz a) (ltz b) (row - 1) (col - 1))) from hL _ _ (by omega) (by omega)) ?_
        refine lv_iconst (v := nI 1) hx hb dX1_mostShared_43 (by decide) ?_
        refine q_iadd (d := lcs (ltz a) (ltz b) (row - 1) (col - 1) + 1) hx hb dX1_mostShared_44 (by omega) ?_
        exact W.iret (v := nI (lcs (ltz a) (ltz b) (row - 1) (col - 1) + 1)) hx hb hr (fun t9 ht _ => ⟨nI (lcs (ltz a) (ltz b) (row - 1) (col - 1) + 1), rfl, (by obtain ⟨i, rfl⟩ : ∃ k, row = k + 1 := ⟨row - 1, by omega⟩; obtain ⟨j, rfl⟩ : ∃ k, col = k + 1 := ⟨col - 1, by omega⟩; rw [lcs_ss]; exact congrArg nI (if_pos c_26).symm), ht⟩) (fun _ h => absurd h List.not_mem_nil) dX1_mostShared_45
    · skip
      refine lv_iconst (v := nI 0) hx hb dX1_mostShared_9 (by decide) ?_
      exact W.iret (v := nI 0) hx hb hr (fun t9 ht _ => ⟨nI 0, rfl, (by rw [c_6, lcs_s0]), ht⟩) (fun _ h => absurd h List.not_mem_nil) dX1_mostShared_10

set_option maxRecDepth 20000 in
theorem iX1_lettersShared_X1 : ∀ w ∈ wsX10, w ∈ wsX1_lettersShared := by decide +kernel
set_option maxRecDepth 20000 in
theorem iX1_lettersShared_X8 : ∀ w ∈ wsX80, w ∈ wsX1_lettersShared := by decide +kernel
set_option maxHeartbeats 4000000 in
set_option maxRecDepth 100000 in
/-- Gauge.lettersShared -/
theorem c_X1_lettersShared (l : Launch) (D : va_G) (sz : Nat) (g : Nat) (gr : Nat) (ce : Nat) (cG : ClassId) (f : Nat → Int32) (w : Nat) (v : Nat) (a : Nat) (b : Nat) (hnd : ([ce] ++ [g, gr, w, v]).Nodup) (hga : gw a) (hgb : gw b) : Met l yX1_lettersShared wsX1_lettersShared { frames := 3, cells := 0, slots := 0, locals := 67 } (va_Pc [.ref g, .ref w, .ref v] (qW D sz ([(g, .inr (1, [.ref gr])), (gr, .inr (2, [.ref ce])), (w, .inr (7, [.long (lN a), .int (nI (wl a)), .long (lN (al a))])), (v, .inr (7, [.long (lN b), .int (nI (wl b)), .long (lN (al b))]))]) [(ce, .inl (cG, 121, .inl f))] [(cG, .int)])) (va_Qi (fun (rv : Int32) (uv : (Nat → Int32)) => rv = nI (lcs (ltz a) (ltz b) (wl a) (wl b))) (fun (uv : (Nat → Int32)) (tv : State) => va_P D vwCl [(ce, .inl (cG, 121, .inl uv))] tv.heap) (va_A [(ce, .inl (cG, 121, .inl f))] sz)) 0 0 (va_A [(ce, .inl (cG, 121, .inl f))] sz) := by
  refine Met.ofW (cc := cX1_lettersShared) (maxL := 5) (ret := (some .int)) (by decide) rfl ?_
  intro pM eM s mi9 argsM belowM methM cM sM B hml hv
  obtain ⟨rfl, hsz, hR0, hP, hK, hNw⟩ := hv
  have hx := B.exec
  have hb := B.bytes
  have hr := B.returns
  have hts := atoms_spec (ws := wsX1_lettersShared) B.pre
  have hown : s.vm.findClass RX1 = some mi9.cls := findClass_of_methodNamed B.named
  have hlocks := B.notSynchronized
  subst hsz
  have hna := q_na (RW := [(ce, .inl (cG, 121, .inl f))]) (RO := [(g, .inr (1, [.ref gr])), (gr, .inr (2, [.ref ce])), (w, .inr (7, [.long (lN a), .int (nI (wl a)), .long (lN (al a))])), (v, .inr (7, [.long (lN b), .int (nI (wl b)), .long (lN (al b))]))]) hnd rfl rfl hR0
  have hD := q_D (RW := [(ce, .inl (cG, 121, .inl f))]) (sz := s.heap.size) hnd rfl
  have hA : ∀ q : Nat, s.heap.size ≤ q → va_A [(ce, .inl (cG, 121, .inl f))] s.heap.size q := fun q h => Or.inr h
  generalize hAe : va_A [(ce, .inl (cG, 121, .inl f))] s.heap.size = A at hna hD hA ⊢
  have hS : va_S A s.heap s.heap [] := va_S.rf
  have hR := hR0
  have hP : va_P D vwCl [(ce, .inl (cG, 121, .inl f))] s.heap := hP
  have hl := lv_entry ([.ref g, .ref w, .ref v]) (n := 5) (Nat.le_of_ble_eq_true rfl)
  rw [lg_entry_eq]
  generalize (lg_sl ([.ref g, .ref w, .ref v]) ++ List.replicate (5 - (lg_sl ([.ref g, .ref w, .ref v])).length) Slot.unset).toArray = ls at hl ⊢
  have hl : lv_has ls 5 [(0, .ref g), (1, .ref w), (2, .ref v)] := hl
  have hwa := gw_wl hga
  have hwb := gw_wl hgb
  refine lv_iconst (v := nI 0) hx hb dX1_lettersShared_0 (by decide) ?_
  refine lv_istore_n (lv' := [(3, .int (nI 0)), (0, .ref g), (1, .ref w), (2, .ref v)]) hx hb dX1_lettersShared_1 rfl hl (by decide) rfl (fun ls hl => ?_)
  refine q_loop (fun (x : (Nat) × (Nat → Int32)) (H : Heap) (locs : List Loc) (ls : Array Slot) => match x with | (row, f1) => (row ≤ wl a + 1) ∧ (∀ i j, j ≤ wl b → i < row → f1 (11 * i + j) = nI (lcs (ltz a) (ltz b) i j)) ∧ va_P D vwCl [(ce, .inl (cG, 121, .inl f1))] H ∧ va_D A [(ce, .inl (cG, 121, .inl f1))] ∧ va_S A s.heap H locs ∧ lv_has ls 5 [(3, .int (nI row)), (0, .ref g), (1, .ref w), (2, .ref v)]) (fun (x : (Nat) × (Nat → Int32)) => match x with | (row, f1) => wl a + 1 - row) (0, f) ⟨(by omega), (fun i j _ h => by omega), hP, hD, hS, (lv_sub hl [0, 1, 2, 3] rfl)⟩ ?_
  clear hl
  clear hP hD hS
  rintro ⟨row, f1⟩ H locs ls hI ih_2
  obtain ⟨hrr, hrow, hP, hD, hS, hl⟩ := hI
  have hR := q_ro hR0 hna hS
  refine lv_iload_n hx hb dX1_lettersShared_2 rfl (lv_at hl 0 rfl) ?_
  refine lv_aload_n hx hb dX1_lettersShared_3 rfl (lv_at hl 2 rfl) ?_
  refine va_getN (host := "FuzzyFens") (D := D) (own := RX1) (ref := "FuzzyFens$Word") (ci := 7) (v := .int (nI (wl a))) (C := RX8) (T := TX8) (N := 3) hx hb hts iX1_lettersShared_X8 hown hK hR 2 rfl rfl 1 (by decide) (va_Nw.use rfl (hNw.1 ("FuzzyFens$Gauge", 20, "FuzzyFens$Word", "length", "I") (List.mem_of_getElem? (i := 2) rfl))) (fun _ h9 => h9) rfl dX1_lettersShared_4 ?_
  refine q_icmp_gt (a := row) (b := wl a) (tgt := 53) hx hb dX1_lettersShared_7 (by decide) (by omega) (by omega) (fun c_7 => ?_) (fun c_7 => ?_)
  · skip
    refine lv_aload_n hx hb dX1_lettersShared_53 rfl (lv_at hl 1 rfl) ?_
    refine va_get (D := D) (own := RX1) (ref := "FuzzyFens$Gauge") (ci := 1) (v := .ref gr) (C := RX1) (T := TX1) (N := 1) hx hb hts iX1_lettersShared_X1 hown hK hR 0 rfl rfl 0 (by decide) (hts (.fieldLink RX1 10 "FuzzyFens$Gauge" "grid" "LFuzzyFens$Grid;") (List.mem_of_getElem? (i := 1) rfl)) (fun _ h9 => h9) rfl dX1_lettersShared_54 ?_
    refine lv_aload_n hx hb dX1_lettersShared_57 rfl (lv_at hl 2 rfl) ?_
    refine va_getN (host := "FuzzyFens") (D := D) (own := RX1) (ref := "FuzzyFens$Word") (ci := 7) (v := .int (nI (wl a))) (C := RX8) (T := TX8) (N := 3) hx hb hts iX1_lettersShared_X8 hown hK hR 2 rfl rfl 1 (by decide) (va_Nw.use rfl (hNw.1 ("FuzzyFens$Gauge", 20, "FuzzyFens$Word", "length", "I") (List.mem_of_getElem? (i := 2) rfl))) (fun _ h9 => h9) rfl dX1_lettersShared_58 ?_
    refine lv_aload_n hx hb dX1_lettersShared_61 rfl (lv_at hl 3 rfl) ?_
    refine va_getN (host := "FuzzyFens") (D := D) (own := RX1) (ref := "FuzzyFens$Word") (ci := 7) (v := .int (nI (wl b))) (C := RX8) (T := TX8) (N := 3) hx hb hts iX1_lettersShared_X8 hown hK hR 3 rfl rfl 1 (by decide) (va_Nw.use rfl (hNw.1 ("FuzzyFens$Gauge", 20, "FuzzyFens$Word", "length", "I") (List.mem_of_getElem? (i := 2) rfl))) (fun _ h9 => h9) rfl dX1_lettersShared_62 ?_
    refine vp_callSi (W.runV (As := [.int (nI (wl a)), .int (nI (wl b))]) (rest := []) ⟨hx, hb, hml, hown, hts⟩ (c_X2_at (l := l) (D := D) (g := gr) (ce := ce) (cA := cG) (f := f1) (r := wl a) (k := wl b) (hr1 := by omega) (hk1 := by omega)) (cwV 2 hts gX1_lettersShared_X2_at rfl rfl rfl (by decide +kernel) ⟨Nat.le_of_ble_eq_true rfl, Nat.le_of_ble_eq_true rfl⟩) ⟨qP_blind, (va_recv hK hR (ci := 2) (q0 := 1) rfl rfl), (qP_of (show va_P D vwCl [(gr, .inr (2, [.ref ce])), (ce, .inl (cG, 121, .inl f1))] _ from (va_P.app (hR.sub (ws' := [(gr, .inr (2, [.ref ce]))]) [1] rfl) (hP.sub (ws' := [(ce, .inl (cG, 121, .inl f1))]) [0] rfl))) (hK.sub (tys' := [(cG, .int)]) [0] rfl) hNw)⟩ rfl rfl hl.1 rfl (lv_room (Nat.le_of_ble_eq_true rfl)) dX1_lettersShared_65 ⟨Nat.le_of_ble_eq_true rfl, Nat.le_of_ble_eq_true rfl⟩) (fun r_1 hr_1 => ?_)
    subst hr_1
    exact W.iret (v := f1 (11 * (wl a) + (wl b))) hx hb hr (fun t9 ht hW => ⟨⟨f1 (11 * (wl a) + (wl b)), f1, rfl, (hrow _ _ (Nat.le_refl _) (by omega)), by show va_P D vwCl _ t9.heap; rw [ht]; exact hP⟩, hS.F ht⟩) hS.2.2 dX1_lettersShared_68
  · skip
    refine lv_iconst (v := nI 0) hx hb dX1_lettersShared_10 (by decide) ?_
    refine lv_istore (lv' := [(4, .int (nI 0)), (3, .int (nI row)), (0, .ref g), (1, .ref w), (2, .ref v)]) hx hb dX1_lettersShared_11 hl (by decide) rfl (fun ls hl => ?_)
    refine q_loop (fun (x : (Nat) × (Nat → Int32)) (H : Heap) (locs : List Loc) (ls : Array Slot) => match x with | (col, f4) => (col ≤ wl b + 1) ∧ (∀ i j, j ≤ wl b → i < row ∨ (i = row ∧ j < col) → f4 (11 * i + j) = nI (lcs (ltz a) (ltz b) i j)) ∧ va_P D vwCl [(ce, .inl (cG, 121, .inl f4))] H ∧ va_D A [(ce, .inl (cG, 121, .inl f4))] ∧ va_S A s.heap H locs ∧ lv_has ls 5 [(4, .int (nI col)), (3, .int (nI row)), (0, .ref g), (1, .ref w), (2, .ref v)]) (fun (x : (Nat) × (Nat → Int32)) => match x with | (col, f4) => wl b + 1 - col) (0, f1) ⟨(by omega), (fun i j hj h => hrow i j hj (by omega)), hP, hD, hS, (lv_sub hl [0, 1, 2, 3, 4] rfl)⟩ ?_
    clear hl
    clear hP hD hS
    rintro ⟨col, f4⟩ H locs ls hI ih_13
    obtain ⟨hc, hcell, hP, hD, hS, hl⟩ := hI
    have hR := q_ro hR0 hna hS
    refine lv_iload hx hb dX1_lettersShared_13 (lv_at hl 0 rfl) ?_
    refine lv_aload_n hx hb dX1_lettersShared_15 rfl (lv_at hl 4 rfl) ?_
    refine va_getN (host := "FuzzyFens") (D := D) (own := RX1) (ref := "FuzzyFens$Word") (ci := 7) (v := .int (nI (wl b))) (C := RX8) (T := TX8) (N := 3) hx hb hts iX1_lettersShared_X8 hown hK hR 3 rfl rfl 1 (by decide) (va_Nw.use rfl (hNw.1 ("FuzzyFens$Gauge", 20, "FuzzyFens$Word", "length", "I") (List.mem_of_getElem? (i := 2) rfl))) (fun _ h9 => h9) rfl dX1_lettersShared_16 ?_
    refine q_icmp_gt (a := col) (b := wl b) (tgt := 47) hx hb dX1_lettersShared_19 (by decide) (by omega) (by omega) (fun c_19 => ?_) (fun c_19 => ?_)
    · skip
      refine lv_iinc (v := nI (row + 1)) (lv' := [(3, .int (nI (row + 1))), (4, .int (nI col)), (0, .ref g), (1, .ref w), (2, .ref v)]) hx hb dX1_lettersShared_47 hl (k := 1) rfl (q_inc (k := 1) (by omega)) (by decide) rfl (fun ls hl => ?_)
      refine lv_goto (tgt := 2) hx hb dX1_lettersShared_50 (by decide) ?_
      exact ih_2 (row + 1, f4) _ _ _ ⟨(by omega), (fun i j hj hi => hcell i j hj (by omega)), hP, hD, hS, (lv_sub hl [0, 2, 3, 4] rfl)⟩ (by show wl a + 1 - (row + 1) < wl a + 1 - row; omega)
    · skip
      refine lv_aload_n hx hb dX1_lettersShared_22 rfl (lv_at hl 2 rfl) ?_
      refine va_get (D := D) (own := RX1) (ref := "FuzzyFens$Gauge") (ci := 1) (v := .ref gr) (C := RX1) (T := TX1) (N := 1) hx hb hts iX1_lettersShared_X1 hown hK hR 0 rfl rfl 0 (by decide) (hts (.fieldLink RX1 10 "FuzzyFens$Gauge" "grid" "LFuzzyFens$Grid;") (List.mem_of_getElem? (i := 1) rfl)) (fun _ h9 => h9) rfl dX1_lettersShared_23 ?_
      refine lv_iload_n hx hb dX1_lettersShared_26 rfl (lv_at hl 1 rfl) ?_
      refine lv_iload hx hb dX1_lettersShared_27 (lv_at hl 0 rfl) ?_
      refine lv_aload_n hx hb dX1_lettersShared_29 rfl (lv_at hl 2 rfl) ?_
      refine lv_aload_n hx hb dX1_lettersShared_30 rfl (lv_at hl 3 rfl) ?_
      refine lv_aload_n hx hb dX1_lettersShared_31 rfl (lv_at hl 4 rfl) ?_
      refine lv_iload_n hx hb dX1_lettersShared_32 rfl (lv_at hl 1 rfl) ?_
      refine lv_iload hx hb dX1_lettersShared_33 (lv_at hl 0 rfl) ?_
      refine vp_callSi (W.runV (As := [.ref w, .ref v, .int (nI row), .int (nI col)]) (rest := [.int (nI col), .int (nI row), .ref gr]) ⟨hx, hb, hml, hown, hts⟩ (c_X1_mostShared (l := l) (D := D) (g := g) (gr := gr) (ce := ce) (cG := cG) (f := f4) (w := w) (v := v) (a := a) (b := b) (row := row) (col := col) (hga := hga) (hgb := hgb) (hrw := by omega) (hcl := by omega) (hL := hcell)) (cwV 4 hts gX1_lettersShared_X1_mostShared rfl rfl rfl (by decide +kernel) ⟨Nat.le_of_ble_eq_true rfl, Nat.le_of_ble_eq_true rfl⟩) ⟨qP_blind, (va_recv hK hR (ci := 1) (q0 := 0) rfl rfl), (qP_of (show va_P D vwCl [(g, .inr (1, [.ref gr])), (gr, .inr (2, [.ref ce])), (ce, .inl (cG, 121, .inl f4)), (w, .inr (7, [.long (lN a), .int (nI (wl a)), .long (lN (al a))])), (v, .inr (7, [.long (lN b), .int (nI (wl b)), .long (lN (al b))]))] _ from (va_P.app (hR.sub (ws' := [(g, .inr (1, [.ref gr]))]) [0] rfl) (va_P.app (hR.sub (ws' := [(gr, .inr (2, [.ref ce]))]) [1] rfl) (va_P.app (hP.sub (ws' := [(ce, .inl (cG, 121, .inl f4))]) [0] rfl) (va_P.app (hR.sub (ws' := [(w, .inr (7, [.long (lN a), .int (nI (wl a)), .long (lN (al a))]))]) [2] rfl) (hR.sub (ws' := [(v, .inr (7, [.long (lN b), .int (nI (wl b)), .long (lN (al b))]))]) [3] rfl)))))) (hK.sub (tys' := [(cG, .int)]) [0] rfl) hNw)⟩ rfl rfl hl.1 rfl (lv_room (Nat.le_of_ble_eq_true rfl)) dX1_lettersShared_35 ⟨Nat.le_of_ble_eq_true rfl, Nat.le_of_ble_eq_true rfl⟩) (fun r_2 hr_2 => ?_)
      subst hr_2
      have hF := va_free (wc := [(ce, .inl (cG, 121, .inl f4))]) hD hS hA [0] rfl
      refine va_callv (va_runV (As := [.int (nI row), .int (nI col), .int (nI (lcs (ltz a) (ltz b) row col))]) (rest := []) ⟨hx, hb, hml, hown, hts⟩ (c_X2_put (l := l) (D := D) (g := gr) (ce := ce) (cA := cG) (f := f4) (r := row) (k := col) (v := nI (lcs (ltz a) (ltz b) row col)) (sz := H.size) (hnd := (q_nds hnd [0, 2] rfl rfl)) (hr1 := by omega) (hk1 := by omega)) (cwV 3 hts gX1_lettersShared_X2_put rfl rfl rfl (by decide +kernel) ⟨Nat.le_of_ble_eq_true rfl, Nat.le_of_ble_eq_true rfl⟩) ⟨qW_blind, (va_recv hK hR (ci := 2) (q0 := 1) rfl rfl), (qW_of (hR.sub (ws' := [(gr, .inr (2, [.ref ce]))]) [1] rfl) (hP.sub (ws' := [(ce, .inl (cG, 121, .inl f4))]) [0] rfl) (hK.sub (tys' := [(cG, .int)]) [0] rfl) hNw)⟩ rfl rfl hl.1 rfl (lv_room (Nat.le_of_ble_eq_true rfl)) dX1_lettersShared_38 ⟨Nat.le_of_ble_eq_true rfl, Nat.le_of_ble_eq_true rfl⟩) hS (fun q _ h => hF q h) hF (fun u_7 t_6 H_4 locs_5 ht hvm hr_3 hB hz1 hk1 hS => ?_)
      replace hB : va_P D vwCl [(ce, .inl (cG, 121, .inl (upd f4 (11 * row + col) (nI (lcs (ltz a) (ltz b) row col)))))] H_4 := by rw [← ht]; exact hB
      obtain ⟨hP, hD⟩ := q_join (wc := [(ce, .inl (cG, 121, .inl f4))]) (w1 := [(ce, .inl (cG, 121, .inl (upd f4 (11 * row + col) (nI (lcs (ltz a) (ltz b) row col)))))]) (ws' := [(ce, .inl (cG, 121, .inl (upd f4 (11 * row + col) (nI (lcs (ltz a) (ltz b) row col)))))]) [0] hP hD rfl rfl hk1 hB rfl
      have hR := q_ro hR0 hna hS
      refine lv_iinc (v := nI (col + 1)) (lv' := [(4, .int (nI (col + 1))), (3, .int (nI row)), (0, .ref g), (1, .ref w), (2, .ref v)]) hx hb dX1_lettersShared_41 hl (k := 0) rfl (q_inc (k := 1) (by omega)) (by decide) rfl (fun ls hl => ?_)
      refine lv_goto (tgt := 13) hx hb dX1_lettersShared_44 (by decide) ?_
      exact ih_13 (col + 1, upd f4 (11 * row + col) (nI (lcs (ltz a) (ltz b) row col))) _ _ _ ⟨(by omega), (by intro i j hj h; by_cases e : i = row ∧ j = col; (rw [e.1, e.2]; exact pk_us); (rw [pk_un (by omega)]; exact hcell i j hj (by omega))), hP, hD, hS, (lv_sub hl [0, 1, 2, 3, 4] rfl)⟩ (by show wl b + 1 - (col + 1) < wl b + 1 - col; omega)
