set_option maxRecDepth 20000 in
theorem iX10_find_X10 : ∀ w ∈ wsX100, w ∈ wsX10_find := by decide +kernel
set_option maxHeartbeats 4000000 in
set_option maxRecDepth 100000 in
/-- find -/
theorem c_X10_find (l : Launch) (D : va_G) (mo : Nat) (mw : Nat) (mct : Nat) (mp : Nat) (mnm : Nat) (m1 : Nat) (m2 : Nat) (mt : Nat) (mk : Nat) (mr : Nat) (ml : Nat) (mq : Nat) (k1 : ClassId) (th : Int32) (n : Nat) (om : Int32) (tm : Int32) (wd : Nat → Nat) (v : Nat) (hv9 : v < 2 ^ 63) (hn40 : n ≤ 40) (hgw : ∀ k, k < n → gw (wd k)) (hinj : ∀ i j, i < n → j < n → wd i = wd j → i = j) : Met l yX10_find wsX10_find { frames := 0, cells := 0, slots := 0, locals := 0 } (va_Pc [.ref mo, .long (lN v)] (qP D ([(mo, .inr (9, [.int th, .int (nI n), .ref mw, .ref mct, .ref mp, .ref mnm, .ref m1, .ref m2, .int om, .int tm, .ref mt, .ref mk, .ref mr, .ref ml, .ref mq])), (mw, .inl (k1, 40, .inr (.inl (fun k9 => lN (wd k9)))))]) [(k1, .long)])) (vp_Si (fun rv : Int32 => rv = pin (ffi (fun k => decide (wd k = v)) n))) 0 0 (fun _ => False) := by
  refine Met.ofW (cc := cX10_find) (maxL := 5) (ret := (some .int)) (by decide) rfl ?_
  intro pM eM s mi9 argsM belowM methM cM sM B hml hv
  obtain ⟨rfl, hR, hK, hNw⟩ := hv
  have hx := B.exec
  have hb := B.bytes
  have hr := B.returns
  have hts := atoms_spec (ws := wsX10_find) B.pre
  have hown : s.vm.findClass RX10 = some mi9.cls := findClass_of_methodNamed B.named
  have hlocks := B.notSynchronized
  have hS : va_S (fun _ => False) s.heap s.heap [] := va_S.rf
  have hR : va_P D vwCl ([(mo, .inr (9, [.int th, .int (nI n), .ref mw, .ref mct, .ref mp, .ref mnm, .ref m1, .ref m2, .int om, .int tm, .ref mt, .ref mk, .ref mr, .ref ml, .ref mq])), (mw, .inl (k1, 40, .inr (.inl (fun k9 => lN (wd k9)))))]) s.heap := hR
  have hl := lv_entry ([.ref mo, .long (lN v)]) (n := 5) (Nat.le_of_ble_eq_true rfl)
  rw [lg_entry_eq]
  generalize (lg_sl ([.ref mo, .long (lN v)]) ++ List.replicate (5 - (lg_sl ([.ref mo, .long (lN v)])).length) Slot.unset).toArray = ls at hl ⊢
  have hl : lv_has ls 5 [(0, .ref mo), (1, .long (lN v))] := hl
  refine lv_iconst (v := (-1)) hx hb dX10_find_0 (by decide) ?_
  refine lv_istore_n (lv' := [(3, .int ((-1))), (0, .ref mo), (1, .long (lN v))]) hx hb dX10_find_1 rfl hl (by decide) rfl (fun ls hl => ?_)
  refine lv_iconst (v := nI 0) hx hb dX10_find_2 (by decide) ?_
  refine lv_istore (lv' := [(4, .int (nI 0)), (3, .int ((-1))), (0, .ref mo), (1, .long (lN v))]) hx hb dX10_find_3 hl (by decide) rfl (fun ls hl => ?_)
  refine q_loop (fun (x : (Nat)) (Hc : Heap) (Lc : List Loc) (ls : Array Slot) => match x with | i => (i ≤ n) ∧ s.heap = Hc ∧ [] = Lc ∧ lv_has ls 5 [(4, .int (nI i)), (3, .int (pin (ffi (fun k => decide (wd k = v)) i))), (0, .ref mo), (1, .long (lN v))]) (fun (x : (Nat)) => match x with | i => n - i) 0 ⟨(by omega), rfl, rfl, (lv_sub hl [0, 1, 2, 3] rfl)⟩ ?_
  clear hl
  rintro i Hc Lc ls hI ih_5
  obtain ⟨hi, rfl, rfl, hl⟩ := hI
  refine lv_iload hx hb dX10_find_5 (lv_at hl 0 rfl) ?_
  refine lv_aload_n hx hb dX10_find_7 rfl (lv_at hl 2 rfl) ?_
  refine va_get (D := D) (own := RX10) (ref := "FuzzyFensModel") (ci := 9) (v := .int (nI n)) (C := RX10) (T := TX10) (N := 15) hx hb hts iX10_find_X10 hown hK hR 0 rfl rfl 1 (by decide) (hts (.fieldLink RX10 77 "FuzzyFensModel" "many" "I") (List.mem_of_getElem? (i := 1) rfl)) (fun _ h9 => h9) rfl dX10_find_8 ?_
  refine q_icmp_ge (a := i) (b := n) (tgt := 39) hx hb dX10_find_11 (by decide) (by omega) (by omega) (fun c_11 => ?_) (fun c_11 => ?_)
  · skip
    refine lv_iload_n hx hb dX10_find_39 rfl (lv_at hl 1 rfl) ?_
    exact W.iret (v := pin (ffi (fun k => decide (wd k = v)) i)) hx hb hr (fun t9 ht _ => ⟨pin (ffi (fun k => decide (wd k = v)) i), rfl, (by rw [show n = i by omega]), ht⟩) (fun _ h => absurd h List.not_mem_nil) dX10_find_40
  · skip
    refine lv_aload_n hx hb dX10_find_14 rfl (lv_at hl 2 rfl) ?_
    refine va_get (D := D) (own := RX10) (ref := "FuzzyFensModel") (ci := 9) (v := .ref mw) (C := RX10) (T := TX10) (N := 15) hx hb hts iX10_find_X10 hown hK hR 0 rfl rfl 2 (by decide) (hts (.fieldLink RX10 7 "FuzzyFensModel" "words" "[J") (List.mem_of_getElem? (i := 2) rfl)) (fun _ h9 => h9) rfl dX10_find_15 ?_
    refine lv_iload hx hb dX10_find_18 (lv_at hl 0 rfl) ?_
    refine va_lald (D := D) hx hb hK hR 1 0 rfl rfl (vp_in_nI (n := i) (N := 40) (by omega) (by decide)) dX10_find_20 ?_
    rw [nI_clamp (n := i) (by omega)]
    refine q_cvl (show (fun k9 => lN (wd k9)) i = lN (wd i) from rfl) ?_
    refine lv_lload_n hx hb dX10_find_21 rfl (lv_at hl 3 rfl) ?_
    refine W.lcmp hx hb dX10_find_22 ?_
    refine q_cut 32 (fun (x : (Option Nat)) (Hc : Heap) (Lc : List Loc) (ls : Array Slot) (st : List Value) => match x with | y => (y = ffi (fun k => decide (wd k = v)) (i + 1)) ∧ s.heap = Hc ∧ [] = Lc ∧ lv_has ls 5 [(4, .int (nI i)), (3, .int (pin (ffi (fun k => decide (wd k = v)) i))), (0, .ref mo), (1, .long (lN v))] ∧ [.int (pin y)] = st) ?_ ?_
    · clear hl
      rintro y Hc Lc ls st hI
      obtain ⟨hy, rfl, rfl, hl, rfl⟩ := hI
      refine lv_istore_n (lv' := [(3, .int (pin y)), (4, .int (nI i)), (0, .ref mo), (1, .long (lN v))]) hx hb dX10_find_32 rfl hl (by decide) rfl (fun ls hl => ?_)
      refine lv_iinc (v := nI (i + 1)) (lv' := [(4, .int (nI (i + 1))), (3, .int (pin y)), (0, .ref mo), (1, .long (lN v))]) hx hb dX10_find_33 hl (k := 1) rfl (q_inc (k := 1) (by omega)) (by decide) rfl (fun ls hl => ?_)
      refine lv_goto (tgt := 5) hx hb dX10_find_36 (by decide) ?_
      rw [hy] at hl
      exact ih_5 (i + 1) _ _ _ ⟨(by omega), rfl, rfl, (lv_sub hl [0, 1, 2, 3] rfl)⟩ (by show n - (i + 1) < n - i; omega)
    · intro hcut_32
      refine q_lc_ne (a := wd i) (b := v) (tgt := 31) hx hb dX10_find_23 (by decide) (by have := gw_lt (hgw i (by omega)); omega) (by omega) (fun c_23 => ?_) (fun c_23 => ?_)
      · skip
        refine lv_iload_n hx hb dX10_find_31 rfl (lv_at hl 1 rfl) ?_
        exact hcut_32 (ffi (fun k => decide (wd k = v)) i) _ _ _ _ ⟨(by rw [← ffi_last (fun j9 h1 h2 h3 => by have := hinj j9 i (by omega) (by omega) ((of_decide_eq_true h2).trans (of_decide_eq_true h3).symm); omega), if_neg (by simpa using c_23)]), rfl, rfl, (lv_sub hl [0, 1, 2, 3] rfl), rfl⟩
      · skip
        refine lv_iload hx hb dX10_find_26 (lv_at hl 0 rfl) ?_
        refine lv_goto (tgt := 32) hx hb dX10_find_28 (by decide) ?_
        exact hcut_32 (some i) _ _ _ _ ⟨(by rw [← ffi_last (fun j9 h1 h2 h3 => by have := hinj j9 i (by omega) (by omega) ((of_decide_eq_true h2).trans (of_decide_eq_true h3).symm); omega), if_pos (by simpa using c_23)]), rfl, rfl, (lv_sub hl [0, 1, 2, 3] rfl), rfl⟩

set_option maxHeartbeats 4000000 in
set_option maxRecDepth 100000 in
/-- isKnown, nowhere -/
theorem c_X10_isKnown_n (l : Launch) (D : va_G) (mo : Nat) (mw : Nat) (mct : Nat) (mp : Nat) (mnm : Nat) (m1 : Nat) (m2 : Nat) (mt : Nat) (mk : Nat) (mr : Nat) (ml : Nat) (mq : Nat) (k2 : ClassId) (th : Int32) (n : Nat) (om : Int32) (tm : Int32) (ct : Nat → Nat)  : Met l yX10_isKnown wsX10_isKnown { frames := 0, cells := 0, slots := 0, locals := 0 } (va_Pc [.ref mo, .int ((-1))] (qP D ([(mo, .inr (9, [.int th, .int (nI n), .ref mw, .ref mct, .ref mp, .ref mnm, .ref m1, .ref m2, .int om, .int tm, .ref mt, .ref mk, .ref mr, .ref ml, .ref mq])), (mct, .inl (k2, 40, .inl (fun k9 => nI (ct k9))))]) [(k2, .int)])) (vp_Si (fun rv : Int32 => rv = nI 0)) 0 0 (fun _ => False) := by
  refine Met.ofW (cc := cX10_isKnown) (maxL := 2) (ret := (some .boolean)) (by decide) rfl ?_
  intro pM eM s mi9 argsM belowM methM cM sM B hml hv
  obtain ⟨rfl, hR, hK, hNw⟩ := hv
  have hx := B.exec
  have hb := B.bytes
  have hr := B.returns
  have hts := atoms_spec (ws := wsX10_isKnown) B.pre
  have hown : s.vm.findClass RX10 = some mi9.cls := findClass_of_methodNamed B.named
  have hlocks := B.notSynchronized
  have hS : va_S (fun _ => False) s.heap s.heap [] := va_S.rf
  have hR : va_P D vwCl ([(mo, .inr (9, [.int th, .int (nI n), .ref mw, .ref mct, .ref mp, .ref mnm, .ref m1, .ref m2, .int om, .int tm, .ref mt, .ref mk, .ref mr, .ref ml, .ref mq])), (mct, .inl (k2, 40, .inl (fun k9 => nI (ct k9))))]) s.heap := hR
  have hl := lv_entry ([.ref mo, .int ((-1))]) (n := 2) (Nat.le_of_ble_eq_true rfl)
  rw [lg_entry_eq]
  generalize (lg_sl ([.ref mo, .int ((-1))]) ++ List.replicate (2 - (lg_sl ([.ref mo, .int ((-1))])).length) Slot.unset).toArray = ls at hl ⊢
  have hl : lv_has ls 2 [(0, .ref mo), (1, .int ((-1)))] := hl
  refine lv_iload_n hx hb dX10_isKnown_0 rfl (lv_at hl 1 rfl) ?_
  refine lv_if_lt (tgt := 17) hx hb dX10_isKnown_1 (by decide) (fun _ => ?_) (fun c9 => absurd (by decide) c9)
  refine lv_iconst (v := nI 0) hx hb dX10_isKnown_17 (by decide) ?_
  exact W.zret (v := nI 0) hx hb hr (by decide) (fun t9 ht _ => ⟨nI 0, rfl, rfl, ht⟩) (fun _ h => absurd h List.not_mem_nil) dX10_isKnown_18

set_option maxRecDepth 20000 in
theorem iX10_isKnown_X10 : ∀ w ∈ wsX100, w ∈ wsX10_isKnown := by decide +kernel
set_option maxHeartbeats 4000000 in
set_option maxRecDepth 100000 in
/-- isKnown -/
theorem c_X10_isKnown (l : Launch) (D : va_G) (mo : Nat) (mw : Nat) (mct : Nat) (mp : Nat) (mnm : Nat) (m1 : Nat) (m2 : Nat) (mt : Nat) (mk : Nat) (mr : Nat) (ml : Nat) (mq : Nat) (k2 : ClassId) (th : Int32) (n : Nat) (om : Int32) (tm : Int32) (ct : Nat → Nat) (i : Nat) (hi : i < 40) (hcb : ct i < 2 ^ 31) : Met l yX10_isKnown wsX10_isKnown { frames := 0, cells := 0, slots := 0, locals := 0 } (va_Pc [.ref mo, .int (nI i)] (qP D ([(mo, .inr (9, [.int th, .int (nI n), .ref mw, .ref mct, .ref mp, .ref mnm, .ref m1, .ref m2, .int om, .int tm, .ref mt, .ref mk, .ref mr, .ref ml, .ref mq])), (mct, .inl (k2, 40, .inl (fun k9 => nI (ct k9))))]) [(k2, .int)])) (vp_Si (fun rv : Int32 => rv = (if 0 < ct i then 1 else 0))) 0 0 (fun _ => False) := by
  refine Met.ofW (cc := cX10_isKnown) (maxL := 2) (ret := (some .boolean)) (by decide) rfl ?_
  intro pM eM s mi9 argsM belowM methM cM sM B hml hv
  obtain ⟨rfl, hR, hK, hNw⟩ := hv
  have hx := B.exec
  have hb := B.bytes
  have hr := B.returns
  have hts := atoms_spec (ws := wsX10_isKnown) B.pre
  have hown : s.vm.findClass RX10 = some mi9.cls := findClass_of_methodNamed B.named
  have hlocks := B.notSynchronized
  have hS : va_S (fun _ => False) s.heap s.heap [] := va_S.rf
  have hR : va_P D vwCl ([(mo, .inr (9, [.int th, .int (nI n), .ref mw, .ref mct, .ref mp, .ref mnm, .ref m1, .ref m2, .int om, .int tm, .ref mt, .ref mk, .ref mr, .ref ml, .ref mq])), (mct, .inl (k2, 40, .inl (fun k9 => nI (ct k9))))]) s.heap := hR
  have hl := lv_entry ([.ref mo, .int (nI i)]) (n := 2) (Nat.le_of_ble_eq_true rfl)
  rw [lg_entry_eq]
  generalize (lg_sl ([.ref mo, .int (nI i)]) ++ List.replicate (2 - (lg_sl ([.ref mo, .int (nI i)])).length) Slot.unset).toArray = ls at hl ⊢
  have hl : lv_has ls 2 [(0, .ref mo), (1, .int (nI i))] := hl
  refine lv_iload_n hx hb dX10_isKnown_0 rfl (lv_at hl 1 rfl) ?_
  refine q_if_lt (a := i) (tgt := 17) hx hb dX10_isKnown_1 (by decide) (by omega) ?_
  refine lv_aload_n hx hb dX10_isKnown_4 rfl (lv_at hl 0 rfl) ?_
  refine va_get (D := D) (own := RX10) (ref := "FuzzyFensModel") (ci := 9) (v := .ref mct) (C := RX10) (T := TX10) (N := 15) hx hb hts iX10_isKnown_X10 hown hK hR 0 rfl rfl 3 (by decide) (hts (.fieldLink RX10 13 "FuzzyFensModel" "counts" "[I") (List.mem_of_getElem? (i := 1) rfl)) (fun _ h9 => h9) rfl dX10_isKnown_5 ?_
  refine lv_iload_n hx hb dX10_isKnown_8 rfl (lv_at hl 1 rfl) ?_
  refine va_iald (D := D) hx hb hK hR 1 0 rfl rfl (vp_in_nI (n := i) (N := 40) (by omega) (by decide)) dX10_isKnown_9 ?_
  rw [nI_clamp (n := i) (by omega)]
  refine q_cvi (show (fun k9 => nI (ct k9)) i = nI (ct i) from rfl) ?_
  refine q_if_le (a := ct i) (tgt := 17) hx hb dX10_isKnown_10 (by decide) (by omega) (fun c_10 => ?_) (fun c_10 => ?_)
  · skip
    refine lv_iconst (v := nI 0) hx hb dX10_isKnown_17 (by decide) ?_
    exact W.zret (v := nI 0) hx hb hr (by decide) (fun t9 ht _ => ⟨nI 0, rfl, (if_neg (by omega)).symm, ht⟩) (fun _ h => absurd h List.not_mem_nil) dX10_isKnown_18
  · skip
    refine lv_iconst (v := nI 1) hx hb dX10_isKnown_13 (by decide) ?_
    refine lv_goto (tgt := 18) hx hb dX10_isKnown_14 (by decide) ?_
    exact W.zret (v := nI 1) hx hb hr (by decide) (fun t9 ht _ => ⟨nI 1, rfl, (if_pos (by omega)).symm, ht⟩) (fun _ h => absurd h List.not_mem_nil) dX10_isKnown_18

set_option maxRecDepth 20000 in
theorem iX10_known_X10 : ∀ w ∈ wsX100, w ∈ wsX10_known := by decide +kernel
set_option maxHeartbeats 4000000 in
set_option maxRecDepth 100000 in
/-- known -/
theorem c_X10_known (l : Launch) (D : va_G) (mo : Nat) (mw : Nat) (mct : Nat) (mp : Nat) (mnm : Nat) (m1 : Nat) (m2 : Nat) (mt : Nat) (mk : Nat) (mr : Nat) (ml : Nat) (mq : Nat) (k2 : ClassId) (th : Int32) (n : Nat) (om : Int32) (tm : Int32) (ct : Nat → Nat) (hn40 : n ≤ 40) (hcb : ∀ k, k < n → ct k < 2 ^ 31) : Met l yX10_known wsX10_known { frames := 0, cells := 0, slots := 0, locals := 0 } (va_Pc [.ref mo] (qP D ([(mo, .inr (9, [.int th, .int (nI n), .ref mw, .ref mct, .ref mp, .ref mnm, .ref m1, .ref m2, .int om, .int tm, .ref mt, .ref mk, .ref mr, .ref ml, .ref mq])), (mct, .inl (k2, 40, .inl (fun k9 => nI (ct k9))))]) [(k2, .int)])) (vp_Si (fun rv : Int32 => rv = nI (knn ct n))) 0 0 (fun _ => False) := by
  refine Met.ofW (cc := cX10_known) (maxL := 3) (ret := (some .int)) (by decide) rfl ?_
  intro pM eM s mi9 argsM belowM methM cM sM B hml hv
  obtain ⟨rfl, hR, hK, hNw⟩ := hv
  have hx := B.exec
  have hb := B.bytes
  have hr := B.returns
  have hts := atoms_spec (ws := wsX10_known) B.pre
  have hown : s.vm.findClass RX10 = some mi9.cls := findClass_of_methodNamed B.named
  have hlocks := B.notSynchronized
  have hS : va_S (fun _ => False) s.heap s.heap [] := va_S.rf
  have hR : va_P D vwCl ([(mo, .inr (9, [.int th, .int (nI n), .ref mw, .ref mct, .ref mp, .ref mnm, .ref m1, .ref m2, .int om, .int tm, .ref mt, .ref mk, .ref mr, .ref ml, .ref mq])), (mct, .inl (k2, 40, .inl (fun k9 => nI (ct k9))))]) s.heap := hR
  have hl := lv_entry ([.ref mo]) (n := 3) (Nat.le_of_ble_eq_true rfl)
  rw [lg_entry_eq]
  generalize (lg_sl ([.ref mo]) ++ List.replicate (3 - (lg_sl ([.ref mo])).length) Slot.unset).toArray = ls at hl ⊢
  have hl : lv_has ls 3 [(0, .ref mo)] := hl
  refine lv_iconst (v := nI 0) hx hb dX10_known_0 (by decide) ?_
  refine lv_istore_n (lv' := [(1, .int (nI 0)), (0, .ref mo)]) hx hb dX10_known_1 rfl hl (by decide) rfl (fun ls hl => ?_)
  refine lv_iconst (v := nI 0) hx hb dX10_known_2 (by decide) ?_
  refine lv_istore_n (lv' := [(2, .int (nI 0)), (1, .int (nI 0)), (0, .ref mo)]) hx hb dX10_known_3 rfl hl (by decide) rfl (fun ls hl => ?_)
  refine q_loop (fun (x : (Nat)) (Hc : Heap) (Lc : List Loc) (ls : Array Slot) => match x with | i => (i ≤ n) ∧ s.heap = Hc ∧ [] = Lc ∧ lv_has ls 3 [(2, .int (nI i)), (1, .int (nI (knn ct i))), (0, .ref mo)]) (fun (x : (Nat)) => match x with | i => n - i) 0 ⟨(by omega), rfl, rfl, (lv_sub hl [0, 1, 2] rfl)⟩ ?_
  clear hl
  rintro i Hc Lc ls hI ih_4
  obtain ⟨hi, rfl, rfl, hl⟩ := hI
  refine lv_iload_n hx hb dX10_known_4 rfl (lv_at hl 0 rfl) ?_
  refine lv_aload_n hx hb dX10_known_5 rfl (lv_at hl 2 rfl) ?_
  refine va_get (D := D) (own := RX10) (ref := "FuzzyFensModel") (ci := 9) (v := .int (nI n)) (C := RX10) (T := TX10) (N := 15) hx hb hts iX10_known_X10 hown hK hR 0 rfl rfl 1 (by decide) (hts (.fieldLink RX10 77 "FuzzyFensModel" "many" "I") (List.mem_of_getElem? (i := 1) rfl)) (fun _ h9 => h9) rfl dX10_known_6 ?_
  refine q_icmp_ge (a := i) (b := n) (tgt := 35) hx hb dX10_known_9 (by decide) (by omega) (by omega) (fun c_9 => ?_) (fun c_9 => ?_)
  · skip
    refine lv_iload_n hx hb dX10_known_35 rfl (lv_at hl 1 rfl) ?_
    exact W.iret (v := nI (knn ct i)) hx hb hr (fun t9 ht _ => ⟨nI (knn ct i), rfl, (by rw [show n = i by omega]), ht⟩) (fun _ h => absurd h List.not_mem_nil) dX10_known_36
  · skip
    refine lv_iload_n hx hb dX10_known_12 rfl (lv_at hl 1 rfl) ?_
    refine lv_aload_n hx hb dX10_known_13 rfl (lv_at hl 2 rfl) ?_
    refine va_get (D := D) (own := RX10) (ref := "FuzzyFensModel") (ci := 9) (v := .ref mct) (C := RX10) (T := TX10) (N := 15) hx hb hts iX10_known_X10 hown hK hR 0 rfl rfl 3 (by decide) (hts (.fieldLink RX10 13 "FuzzyFensModel" "counts" "[I") (List.mem_of_getElem? (i := 2) rfl)) (fun _ h9 => h9) rfl dX10_known_14 ?_
    refine lv_iload_n hx hb dX10_known_17 rfl (lv_at hl 0 rfl) ?_
    refine va_iald (D := D) hx hb hK hR 1 0 rfl rfl (vp_in_nI (n := i) (N := 40) (by omega) (by decide)) dX10_known_18 ?_
    rw [nI_clamp (n := i) (by omega)]
    refine q_cvi (show (fun k9 => nI (ct k9)) i = nI (ct i) from rfl) ?_
    refine q_cut 27 (fun (x : (Nat)) (Hc : Heap) (Lc : List Loc) (ls : Array Slot) (st : List Value) => match x with | z => (knn ct i + z = knn ct (i + 1)) ∧ s.heap = Hc ∧ [] = Lc ∧ lv_has ls 3 [(2, .int (nI i)), (1, .int (nI (knn ct i))), (0, .ref mo)] ∧ [.int (nI z), .int (nI (knn ct i))] = st) ?_ ?_
    · clear hl
      rintro z Hc Lc ls st hI
      obtain ⟨hz, rfl, rfl, hl, rfl⟩ := hI
      refine q_iadd (d := knn ct i + z) hx hb dX10_known_27 (by omega) ?_
      refine q_cvi (show (nI (knn ct i + z)) = (nI (knn ct (i + 1))) from (by rw [hz])) ?_
      refine lv_istore_n (lv' := [(1, .int (nI (knn ct (i + 1)))), (2, .int (nI i)), (0, .ref mo)]) hx hb dX10_known_28 rfl hl (by decide) rfl (fun ls hl => ?_)
      refine lv_iinc (v := nI (i + 1)) (lv' := [(2, .int (nI (i + 1))), (1, .int (nI (knn ct (i + 1)))), (0, .ref mo)]) hx hb dX10_known_29 hl (k := 1) rfl (q_inc (k := 1) (by omega)) (by decide) rfl (fun ls hl => ?_)
      refine lv_goto (tgt := 4) hx hb dX10_known_32 (by decide) ?_
      exact ih_4 (i + 1) _ _ _ ⟨(by omega), rfl, rfl, (lv_sub hl [0, 1, 2] rfl)⟩ (by show n - (i + 1) < n - i; omega)
    · intro hcut_27
      refine q_if_le (a := ct i) (tgt := 26) hx hb dX10_known_19 (by decide) (hcb i (by omega)) (fun c_19 => ?_) (fun c_19 => ?_)
      · skip
        refine lv_iconst (v := nI 0) hx hb dX10_known_26 (by decide) ?_
        exact hcut_27 0 _ _ _ _ ⟨(cnt_f (by simpa using c_19)).symm, rfl, rfl, (lv_sub hl [0, 1, 2] rfl), rfl⟩
      · skip
        refine lv_iconst (v := nI 1) hx hb dX10_known_22 (by decide) ?_
        refine lv_goto (tgt := 27) hx hb dX10_known_23 (by decide) ?_
        exact hcut_27 1 _ _ _ _ ⟨(cnt_t (by simpa using c_19)).symm, rfl, rfl, (lv_sub hl [0, 1, 2] rfl), rfl⟩

set_option maxRecDepth 20000 in
theorem iX10_words_X10 : ∀ w ∈ wsX100, w ∈ wsX10_words := by decide +kernel
set_option maxHeartbeats 4000000 in
set_option maxRecDepth 100000 in
/-- words -/
theorem c_X10_words (l : Launch) (D : va_G) (sz : Nat) (mo : Nat) (mw : Nat) (mct : Nat) (mp : Nat) (mnm : Nat) (m1 : Nat) (m2 : Nat) (mt : Nat) (mk : Nat) (mr : Nat) (ml : Nat) (mq : Nat) (k2 : ClassId) (th : Int32) (n : Nat) (om : Int32) (tm : Int32) (ct : Nat → Nat) (hnd : ([mo] ++ [mct]).Nodup) (hn40 : n ≤ 40) (hcb : ∀ k, k < n → ct k < 2 ^ 31) : Met l yX10_words wsX10_words { frames := 1, cells := 0, slots := 0, locals := 22 } (va_Pc [.ref mo] (qW D sz ([(mct, .inl (k2, 40, .inl (fun k9 => nI (ct k9))))]) [(mo, .inr (9, [.int th, .int (nI n), .ref mw, .ref mct, .ref mp, .ref mnm, .ref m1, .ref m2, .int om, .int tm, .ref mt, .ref mk, .ref mr, .ref ml, .ref mq]))] [(k2, .int)])) (va_Qi (fun (rv : Int32) (uv : Unit) => rv = nI (knn ct n)) (fun (uv : Unit) (tv : State) => va_P D vwCl [(mo, .inr (9, [.int (nI 0), .int (nI n), .ref mw, .ref mct, .ref mp, .ref mnm, .ref m1, .ref m2, .int om, .int tm, .ref mt, .ref mk, .ref mr, .ref ml, .ref mq]))] tv.heap) (va_A [(mo, .inr (9, [.int th, .int (nI n), .ref mw, .ref mct, .ref mp, .ref mnm, .ref m1, .ref m2, .int om, .int tm, .ref mt, .ref mk, .ref mr, .ref ml, .ref mq]))] sz)) 0 0 (va_A [(mo, .inr (9, [.int th, .int (nI n), .ref mw, .ref mct, .ref mp, .ref mnm, .ref m1, .ref m2, .int om, .int tm, .ref mt, .ref mk, .ref mr, .ref ml, .ref mq]))] sz) := by
  refine Met.ofW (cc := cX10_words) (maxL := 1) (ret := (some .int)) (by decide) rfl ?_
  intro pM eM s mi9 argsM belowM methM cM sM B hml hv
  obtain ⟨rfl, hsz, hR0, hP, hK, hNw⟩ := hv
  have hx := B.exec
  have hb := B.bytes
  have hr := B.returns
  have hts := atoms_spec (ws := wsX10_words) B.pre
  have hown : s.vm.findClass RX10 = some mi9.cls := findClass_of_methodNamed B.named
  have hlocks := B.notSynchronized
  subst hsz
  have hna := q_na (RW := [(mo, .inr (9, [.int th, .int (nI n), .ref mw, .ref mct, .ref mp, .ref mnm, .ref m1, .ref m2, .int om, .int tm, .ref mt, .ref mk, .ref mr, .ref ml, .ref mq]))]) (RO := [(mct, .inl (k2, 40, .inl (fun k9 => nI (ct k9))))]) hnd rfl rfl hR0
  have hD := q_D (RW := [(mo, .inr (9, [.int th, .int (nI n), .ref mw, .ref mct, .ref mp, .ref mnm, .ref m1, .ref m2, .int om, .int tm, .ref mt, .ref mk, .ref mr, .ref ml, .ref mq]))]) (sz := s.heap.size) hnd rfl
  have hA : ∀ q : Nat, s.heap.size ≤ q → va_A [(mo, .inr (9, [.int th, .int (nI n), .ref mw, .ref mct, .ref mp, .ref mnm, .ref m1, .ref m2, .int om, .int tm, .ref mt, .ref mk, .ref mr, .ref ml, .ref mq]))] s.heap.size q := fun q h => Or.inr h
  generalize hAe : va_A [(mo, .inr (9, [.int th, .int (nI n), .ref mw, .ref mct, .ref mp, .ref mnm, .ref m1, .ref m2, .int om, .int tm, .ref mt, .ref mk, .ref mr, .ref ml, .ref mq]))] s.heap.size = A at hna hD hA ⊢
  have hS : va_S A s.heap s.heap [] := va_S.rf
  have hR := hR0
  have hP : va_P D vwCl [(mo, .inr (9, [.int th, .int (nI n), .ref mw, .ref mct, .ref mp, .ref mnm, .ref m1, .ref m2, .int om, .int tm, .ref mt, .ref mk, .ref mr, .ref ml, .ref mq]))] s.heap := hP
  have hl := lv_entry ([.ref mo]) (n := 1) (Nat.le_of_ble_eq_true rfl)
  rw [lg_entry_eq]
  generalize (lg_sl ([.ref mo]) ++ List.replicate (1 - (lg_sl ([.ref mo])).length) Slot.unset).toArray = ls at hl ⊢
  have hl : lv_has ls 1 [(0, .ref mo)] := hl
  refine lv_aload_n hx hb dX10_words_0 rfl (lv_at hl 0 rfl) ?_
  refine lv_iconst (v := nI 0) hx hb dX10_words_1 (by decide) ?_
  refine va_put (D := D) (ci := 9) (v := .int (nI 0)) (ty := .int) (C := RX10) (T := TX10) (N := 15) hx hb hts iX10_words_X10 tyX10 tyX10_ok nmX10 hown hK hP hD hS 0 rfl rfl 0 (by decide) (hts (.fieldLink RX10 44 "FuzzyFensModel" "thrown" "I") (List.mem_of_getElem? (i := 1) rfl)) (fun _ h9 => h9) rfl (by decide +kernel) rfl rfl (Nat.le_of_ble_eq_true rfl) dX10_words_2 (fun H_1 locs_2 hP hD hS => ?_)
  have hP : va_P D vwCl [(mo, .inr (9, [.int (nI 0), .int (nI n), .ref mw, .ref mct, .ref mp, .ref mnm, .ref m1, .ref m2, .int om, .int tm, .ref mt, .ref mk, .ref mr, .ref ml, .ref mq]))] H_1 := hP
  have hD : va_D A [(mo, .inr (9, [.int (nI 0), .int (nI n), .ref mw, .ref mct, .ref mp, .ref mnm, .ref m1, .ref m2, .int om, .int tm, .ref mt, .ref mk, .ref mr, .ref ml, .ref mq]))] := hD
  have hR := q_ro hR0 hna hS
  refine lv_aload_n hx hb dX10_words_5 rfl (lv_at hl 0 rfl) ?_
  refine vp_callSi (W.runV (As := []) (rest := []) ⟨hx, hb, hml, hown, hts⟩ (c_X10_known (l := l) (D := D) (mo := mo) (mw := mw) (mct := mct) (mp := mp) (mnm := mnm) (m1 := m1) (m2 := m2) (mt := mt) (mk := mk) (mr := mr) (ml := ml) (mq := mq) (k2 := k2) (th := nI 0) (n := n) (om := om) (tm := tm) (ct := ct) (hn40 := hn40) (hcb := hcb)) (cwV 0 hts gX10_words_X10_known rfl rfl rfl (by decide +kernel) ⟨Nat.le_of_ble_eq_true rfl, Nat.le_of_ble_eq_true rfl⟩) ⟨qP_blind, (va_recv hK hP (ci := 9) (q0 := 0) rfl rfl), (qP_of (show va_P D vwCl [(mo, .inr (9, [.int (nI 0), .int (nI n), .ref mw, .ref mct, .ref mp, .ref mnm, .ref m1, .ref m2, .int om, .int tm, .ref mt, .ref mk, .ref mr, .ref ml, .ref mq])), (mct, .inl (k2, 40, .inl (fun k9 => nI (ct k9))))] _ from (va_P.app (hP.sub (ws' := [(mo, .inr (9, [.int (nI 0), .int (nI n), .ref mw, .ref mct, .ref mp, .ref mnm, .ref m1, .ref m2, .int om, .int tm, .ref mt, .ref mk, .ref mr, .ref ml, .ref mq]))]) [0] rfl) (hR.sub (ws' := [(mct, .inl (k2, 40, .inl (fun k9 => nI (ct k9))))]) [0] rfl))) (hK.sub (tys' := [(k2, .int)]) [0] rfl) hNw)⟩ rfl rfl hl.1 rfl (lv_room (Nat.le_of_ble_eq_true rfl)) dX10_words_6 ⟨Nat.le_of_ble_eq_true rfl, Nat.le_of_ble_eq_true rfl⟩) (fun r_3 hr_3 => ?_)
  subst hr_3
  exact W.iret (v := nI (knn ct n)) hx hb hr (fun t9 ht hW => ⟨⟨nI (knn ct n), (), rfl, rfl, by show va_P D vwCl _ t9.heap; rw [ht]; exact hP⟩, hS.F ht⟩) hS.2.2 dX10_words_9

set_option maxRecDepth 20000 in
theorem iX10_beside_X10 : ∀ w ∈ wsX100, w ∈ wsX10_beside := by decide +kernel
set_option maxHeartbeats 4000000 in
set_option maxRecDepth 100000 in
/-- beside -/
theorem c_X10_beside (l : Launch) (D : va_G) (mo : Nat) (mw : Nat) (mct : Nat) (mp : Nat) (mnm : Nat) (m1 : Nat) (m2 : Nat) (mt : Nat) (mk : Nat) (mr : Nat) (ml : Nat) (mq : Nat) (k8 : ClassId) (th : Int32) (n : Nat) (om : Int32) (tm : Int32) (x9 : Nat) (y9 : Nat) (hx1 : 1 ≤ x9) (hx2 : x9 ≤ 26) (hy1 : 1 ≤ y9) (hy2 : y9 ≤ 26) : Met l yX10_beside wsX10_beside { frames := 0, cells := 0, slots := 0, locals := 0 } (va_Pc [.ref mo, .int (nI x9), .int (nI y9)] (qP D ([(mo, .inr (9, [.int th, .int (nI n), .ref mw, .ref mct, .ref mp, .ref mnm, .ref m1, .ref m2, .int om, .int tm, .ref mt, .ref mk, .ref mr, .ref ml, .ref mq])), (mk, .inl (k8, 27, .inl (fun k9 => nI (kyf k9))))]) [(k8, .int)])) (vp_Si (fun rv : Int32 => rv = (if nbr x9 y9 then 1 else 0))) 0 0 (fun _ => False) := by
  refine Met.ofW (cc := cX10_beside) (maxL := 8) (ret := (some .boolean)) (by decide) rfl ?_
  intro pM eM s mi9 argsM belowM methM cM sM B hml hv
  obtain ⟨rfl, hR, hK, hNw⟩ := hv
  have hx := B.exec
  have hb := B.bytes
  have hr := B.returns
  have hts := atoms_spec (ws := wsX10_beside) B.pre
  have hown : s.vm.findClass RX10 = some mi9.cls := findClass_of_methodNamed B.named
  have hlocks := B.notSynchronized
  have hS : va_S (fun _ => False) s.heap s.heap [] := va_S.rf
  have hR : va_P D vwCl ([(mo, .inr (9, [.int th, .int (nI n), .ref mw, .ref mct, .ref mp, .ref mnm, .ref m1, .ref m2, .int om, .int tm, .ref mt, .ref mk, .ref mr, .ref ml, .ref mq])), (mk, .inl (k8, 27, .inl (fun k9 => nI (kyf k9))))]) s.heap := hR
  have hl := lv_entry ([.ref mo, .int (nI x9), .int (nI y9)]) (n := 8) (Nat.le_of_ble_eq_true rfl)
  rw [lg_entry_eq]
  generalize (lg_sl ([.ref mo, .int (nI x9), .int (nI y9)]) ++ List.replicate (8 - (lg_sl ([.ref mo, .int (nI x9), .int (nI y9)])).length) Slot.unset).toArray = ls at hl ⊢
  have hl : lv_has ls 8 [(0, .ref mo), (1, .int (nI x9)), (2, .int (nI y9))] := hl
  have ex := kyf_ok x9 (by omega) hx1
  have ey := kyf_ok y9 (by omega) hy1
  have qx := kpl_lt x9
  have qy := kpl_lt y9
  have rx := kro_lt x9
  have ry := kro_lt y9
  refine lv_aload_n hx hb dX10_beside_0 rfl (lv_at hl 0 rfl) ?_
  refine va_get (D := D) (own := RX10) (ref := "FuzzyFensModel") (ci := 9) (v := .ref mk) (C := RX10) (T := TX10) (N := 15) hx hb hts iX10_beside_X10 hown hK hR 0 rfl rfl 11 (by decide) (hts (.fieldLink RX10 32 "FuzzyFensModel" "keys" "[I") (List.mem_of_getElem? (i := 1) rfl)) (fun _ h9 => h9) rfl dX10_beside_1 ?_
  refine lv_iload_n hx hb dX10_beside_4 rfl (lv_at hl 1 rfl) ?_
  refine va_iald (D := D) hx hb hK hR 1 0 rfl rfl (vp_in_nI (n := x9) (N := 27) (by omega) (by decide)) dX10_beside_5 ?_
  rw [nI_clamp (n := x9) (by omega)]
  refine q_cvi (show (fun k9 => nI (kyf k9)) x9 = nI (kyf x9) from rfl) ?_
  refine lv_istore_n (lv' := [(3, .int (nI (kyf x9))), (0, .ref mo), (1, .int (nI x9)), (2, .int (nI y9))]) hx hb dX10_beside_6 rfl hl (by decide) rfl (fun ls hl => ?_)
  refine lv_aload_n hx hb dX10_beside_7 rfl (lv_at hl 1 rfl) ?_
  refine va_get (D := D) (own := RX10) (ref := "FuzzyFensModel") (ci := 9) (v := .ref mk) (C := RX10) (T := TX10) (N := 15) hx hb hts iX10_beside_X10 hown hK hR 0 rfl rfl 11 (by decide) (hts (.fieldLink RX10 32 "FuzzyFensModel" "keys" "[I") (List.mem_of_getElem? (i := 1) rfl)) (fun _ h9 => h9) rfl dX10_beside_8 ?_
  refine lv_iload_n hx hb dX10_beside_11 rfl (lv_at hl 3 rfl) ?_
  refine va_iald (D := D) hx hb hK hR 1 0 rfl rfl (vp_in_nI (n := y9) (N := 27) (by omega) (by decide)) dX10_beside_12 ?_
  rw [nI_clamp (n := y9) (by omega)]
  refine q_cvi (show (fun k9 => nI (kyf k9)) y9 = nI (kyf y9) from rfl) ?_
  refine lv_istore (lv' := [(4, .int (nI (kyf y9))), (3, .int (nI (kyf x9))), (0, .ref mo), (1, .int (nI x9)), (2, .int (nI y9))]) hx hb dX10_beside_13 hl (by decide) rfl (fun ls hl => ?_)
  refine lv_iload_n hx hb dX10_beside_15 rfl (lv_at hl 1 rfl) ?_
  refine lv_bipush (v := nI 10) hx hb dX10_beside_16 (by decide) ?_
  refine lv_idiv hx hb dX10_beside_18 (by decide) ?_
  refine q_cvi (pk_div (by omega) (by decide) (by decide)) ?_
  refine lv_iload hx hb dX10_beside_19 (lv_at hl 0 rfl) ?_
  refine lv_bipush (v := nI 10) hx hb dX10_beside_21 (by decide) ?_
  refine lv_idiv hx hb dX10_beside_23 (by decide) ?_
  refine q_cvi (pk_div (by omega) (by decide) (by decide)) ?_
  refine q_icmp_ne (a := (kyf x9) / 10) (b := (kyf y9) / 10) (tgt := 49) hx hb dX10_beside_24 (by decide) (by omega) (by omega) (fun c_24 => ?_) (fun c_24 => ?_)
  · skip
    refine lv_iload_n hx hb dX10_beside_49 rfl (lv_at hl 1 rfl) ?_
    refine lv_iload hx hb dX10_beside_50 (lv_at hl 0 rfl) ?_
    refine q_icmp_ge (a := kyf x9) (b := kyf y9) (tgt := 59) hx hb dX10_beside_52 (by decide) (by omega) (by omega) (fun c_52 => ?_) (fun c_52 => ?_)
    · skip
      refine lv_iload hx hb dX10_beside_59 (lv_at hl 0 rfl) ?_
      refine lv_istore (lv' := [(5, .int (nI (kyf y9))), (4, .int (nI (kyf y9))), (3, .int (nI (kyf x9))), (0, .ref mo), (1, .int (nI x9)), (2, .int (nI y9))]) hx hb dX10_beside_61 hl (by decide) rfl (fun ls hl => ?_)
      refine lv_iload_n hx hb dX10_beside_63 rfl (lv_at hl 2 rfl) ?_
      refine lv_iload hx hb dX10_beside_64 (lv_at hl 1 rfl) ?_
      refine q_icmp_ge (a := kyf x9) (b := kyf y9) (tgt := 74) hx hb dX10_beside_66 (by decide) (by omega) (by omega) (fun c_66 => ?_) (fun c_66 => ?_)
      · skip
        refine lv_iload_n hx hb dX10_beside_74 rfl (lv_at hl 2 rfl) ?_
        refine lv_istore (lv' := [(6, .int (nI (kyf x9))), (5, .int (nI (kyf y9))), (4, .int (nI (kyf y9))), (3, .int (nI (kyf x9))), (0, .ref mo), (1, .int (nI x9)), (2, .int (nI y9))]) hx hb dX10_beside_75 hl (by decide) rfl (fun ls hl => ?_)
        refine lv_iload hx hb dX10_beside_77 (lv_at hl 0 rfl) ?_
        refine lv_bipush (v := nI 10) hx hb dX10_beside_79 (by decide) ?_
        refine lv_irem hx hb dX10_beside_81 (by decide) ?_
        refine q_cvi (pk_rem (by omega) (by decide) (by decide)) ?_
        refine lv_iload hx hb dX10_beside_82 (lv_at hl 1 rfl) ?_
        refine lv_bipush (v := nI 10) hx hb dX10_beside_84 (by decide) ?_
        refine lv_irem hx hb dX10_beside_86 (by decide) ?_
        refine q_cvi (pk_rem (by omega) (by decide) (by decide)) ?_
        refine lv_isub hx hb dX10_beside_87 ?_
        refine lv_istore (lv' := [(7, .int ((nI ((kyf x9) % 10)) - (nI ((kyf y9) % 10)))), (6, .int (nI (kyf x9))), (5, .int (nI (kyf y9))), (4, .int (nI (kyf y9))), (3, .int (nI (kyf x9))), (0, .ref mo), (1, .int (nI x9)), (2, .int (nI y9))]) hx hb dX10_beside_88 hl (by decide) rfl (fun ls hl => ?_)
        refine lv_iload hx hb dX10_beside_90 (lv_at hl 1 rfl) ?_
        refine lv_bipush (v := nI 10) hx hb dX10_beside_92 (by decide) ?_
        refine lv_idiv hx hb dX10_beside_94 (by decide) ?_
        refine q_cvi (pk_div (by omega) (by decide) (by decide)) ?_
        refine lv_iload hx hb dX10_beside_95 (lv_at hl 2 rfl) ?_
        refine lv_bipush (v := nI 10) hx hb dX10_beside_97 (by decide) ?_
        refine lv_idiv hx hb dX10_beside_99 (by decide) ?_
        refine q_cvi (pk_div (by omega) (by decide) (by decide)) ?_
        refine q_isub (d := (kyf x9) / 10 - (kyf y9) / 10) hx hb dX10_beside_100 (by omega) ?_
        refine lv_iconst (v := nI 1) hx hb dX10_beside_101 (by decide) ?_
        refine q_icmp_ne (a := (kyf x9) / 10 - (kyf y9) / 10) (b := 1) (tgt := 120) hx hb dX10_beside_102 (by decide) (by omega) (by omega) (fun c_102 => ?_) (fun c_102 => ?_)
        · skip
          refine lv_iconst (v := nI 0) hx hb dX10_beside_120 (by decide) ?_
          exact W.zret (v := nI 0) hx hb hr (by decide) (fun t9 ht _ => ⟨nI 0, rfl, (if_neg (by omega)).symm, ht⟩) (fun _ h => absurd h List.not_mem_nil) dX10_beside_121
        · skip
          refine lv_iload hx hb dX10_beside_105 (lv_at hl 0 rfl) ?_
          refine lv_if_eq (tgt := 116) hx hb dX10_beside_107 (by decide) (fun c_107 => ?_) (fun c_107 => ?_)
          · skip
            rw [q_d0 (by omega) (by omega)] at c_107
            refine lv_iconst (v := nI 1) hx hb dX10_beside_116 (by decide) ?_
            refine lv_goto (tgt := 121) hx hb dX10_beside_117 (by decide) ?_
            exact W.zret (v := nI 1) hx hb hr (by decide) (fun t9 ht _ => ⟨nI 1, rfl, (if_pos (by omega)).symm, ht⟩) (fun _ h => absurd h List.not_mem_nil) dX10_beside_121
          · skip
            rw [q_d0 (by omega) (by omega)] at c_107
            refine lv_iload hx hb dX10_beside_110 (lv_at hl 0 rfl) ?_
            refine lv_iconst (v := (-1)) hx hb dX10_beside_112 (by decide) ?_
            refine lv_icmp_ne (tgt := 120) hx hb dX10_beside_113 (by decide) (fun c_113 => ?_) (fun c_113 => ?_)
            · skip
              rw [q_dm (by omega) (by omega)] at c_113
              refine lv_iconst (v := nI 0) hx hb dX10_beside_120 (by decide) ?_
              exact W.zret (v := nI 0) hx hb hr (by decide) (fun t9 ht _ => ⟨nI 0, rfl, (if_neg (by omega)).symm, ht⟩) (fun _ h => absurd h List.not_mem_nil) dX10_beside_121
            · skip
              rw [q_dm (by omega) (by omega)] at c_113
              refine lv_iconst (v := nI 1) hx hb dX10_beside_116 (by decide) ?_
              refine lv_goto (tgt := 121) hx hb dX10_beside_117 (by decide) ?_
              exact W.zret (v := nI 1) hx hb hr (by decide) (fun t9 ht _ => ⟨nI 1, rfl, (if_pos (by omega)).symm, ht⟩) (fun _ h => absurd h List.not_mem_nil) dX10_beside_121
      · skip
        refine lv_iload hx hb dX10_beside_69 (lv_at hl 1 rfl) ?_
        refine lv_goto (tgt := 75) hx hb dX10_beside_71 (by decide) ?_
        refine lv_istore (lv' := [(6, .int (nI (kyf y9))), (5, .int (nI (kyf y9))), (4, .int (nI (kyf y9))), (3, .int (nI (kyf x9))), (0, .ref mo), (1, .int (nI x9)), (2, .int (nI y9))]) hx hb dX10_beside_75 hl (by decide) rfl (fun ls hl => ?_)
        refine lv_iload hx hb dX10_beside_77 (lv_at hl 0 rfl) ?_
        refine lv_bipush (v := nI 10) hx hb dX10_beside_79 (by decide) ?_
        refine lv_irem hx hb dX10_beside_81 (by decide) ?_
        refine q_cvi (pk_rem (by omega) (by decide) (by decide)) ?_
        refine lv_iload hx hb dX10_beside_82 (lv_at hl 1 rfl) ?_
        refine lv_bipush (v := nI 10) hx hb dX10_beside_84 (by decide) ?_
        refine lv_irem hx hb dX10_beside_86 (by decide) ?_
        refine q_cvi (pk_rem (by omega) (by decide) (by decide)) ?_
        refine lv_isub hx hb dX10_beside_87 ?_
        refine lv_istore (lv' := [(7, .int ((nI ((kyf y9) % 10)) - (nI ((kyf y9) % 10)))), (6, .int (nI (kyf y9))), (5, .int (nI (kyf y9))), (4, .int (nI (kyf y9))), (3, .int (nI (kyf x9))), (0, .ref mo), (1, .int (nI x9)), (2, .int (nI y9))]) hx hb dX10_beside_88 hl (by decide) rfl (fun ls hl => ?_)
        refine lv_iload hx hb dX10_beside_90 (lv_at hl 1 rfl) ?_
        refine lv_bipush (v := nI 10) hx hb dX10_beside_92 (by decide) ?_
        refine lv_idiv hx hb dX10_beside_94 (by decide) ?_
        refine q_cvi (pk_div (by omega) (by decide) (by decide)) ?_
        refine lv_iload hx hb dX10_beside_95 (lv_at hl 2 rfl) ?_
        refine lv_bipush (v := nI 10) hx hb dX10_beside_97 (by decide) ?_
        refine lv_idiv hx hb dX10_beside_99 (by decide) ?_
        refine q_cvi (pk_div (by omega) (by decide) (by decide)) ?_
        refine q_isub (d := 0) hx hb dX10_beside_100 (by omega) ?_
        refine lv_iconst (v := nI 1) hx hb dX10_beside_101 (by decide) ?_
        refine lv_icmp_ne (tgt := 120) hx hb dX10_beside_102 (by decide) (fun _ => ?_) (fun c9 => absurd c9 (by decide))
        refine lv_iconst (v := nI 0) hx hb dX10_beside_120 (by decide) ?_
        exact W.zret (v := nI 0) hx hb hr (by decide) (fun t9 ht _ => ⟨nI 0, rfl, (if_neg (by omega)).symm, ht⟩) (fun _ h => absurd h List.not_mem_nil) dX10_beside_121
    · skip
      refine lv_iload_n hx hb dX10_beside_55 rfl (lv_at hl 1 rfl) ?_
      refine lv_goto (tgt := 61) hx hb dX10_beside_56 (by decide) ?_
      refine lv_istore (lv' := [(5, .int (nI (kyf x9))), (4, .int (nI (kyf y9))), (3, .int (nI (kyf x9))), (0, .ref mo), (1, .int (nI x9)), (2, .int (nI y9))]) hx hb dX10_beside_61 hl (by decide) rfl (fun ls hl => ?_)
      refine lv_iload_n hx hb dX10_beside_63 rfl (lv_at hl 2 rfl) ?_
      refine lv_iload hx hb dX10_beside_64 (lv_at hl 1 rfl) ?_
      refine q_icmp_ge (a := kyf x9) (b := kyf y9) (tgt := 74) hx hb dX10_beside_66 (by decide) (by omega) (by omega) (fun c_66 => ?_) (fun c_66 => ?_)
      · skip
        refine lv_iload_n hx hb dX10_beside_74 rfl (lv_at hl 2 rfl) ?_
        refine lv_istore (lv' := [(6, .int (nI (kyf x9))), (5, .int (nI (kyf x9))), (4, .int (nI (kyf y9))), (3, .int (nI (kyf x9))), (0, .ref mo), (1, .int (nI x9)), (2, .int (nI y9))]) hx hb dX10_beside_75 hl (by decide) rfl (fun ls hl => ?_)
        refine lv_iload hx hb dX10_beside_77 (lv_at hl 0 rfl) ?_
        refine lv_bipush (v := nI 10) hx hb dX10_beside_79 (by decide) ?_
        refine lv_irem hx hb dX10_beside_81 (by decide) ?_
        refine q_cvi (pk_rem (by omega) (by decide) (by decide)) ?_
        refine lv_iload hx hb dX10_beside_82 (lv_at hl 1 rfl) ?_
        refine lv_bipush (v := nI 10) hx hb dX10_beside_84 (by decide) ?_
        refine lv_irem hx hb dX10_beside_86 (by decide) ?_
        refine q_cvi (pk_rem (by omega) (by decide) (by decide)) ?_
        refine lv_isub hx hb dX10_beside_87 ?_
        refine lv_istore (lv' := [(7, .int ((nI ((kyf x9) % 10)) - (nI ((kyf x9) % 10)))), (6, .int (nI (kyf x9))), (5, .int (nI (kyf x9))), (4, .int (nI (kyf y9))), (3, .int (nI (kyf x9))), (0, .ref mo), (1, .int (nI x9)), (2, .int (nI y9))]) hx hb dX10_beside_88 hl (by decide) rfl (fun ls hl => ?_)
        refine lv_iload hx hb dX10_beside_90 (lv_at hl 1 rfl) ?_
        refine lv_bipush (v := nI 10) hx hb dX10_beside_92 (by decide) ?_
        refine lv_idiv hx hb dX10_beside_94 (by decide) ?_
        refine q_cvi (pk_div (by omega) (by decide) (by decide)) ?_
        refine lv_iload hx hb dX10_beside_95 (lv_at hl 2 rfl) ?_
        refine lv_bipush (v := nI 10) hx hb dX10_beside_97 (by decide) ?_
        refine lv_idiv hx hb dX10_beside_99 (by decide) ?_
        refine q_cvi (pk_div (by omega) (by decide) (by decide)) ?_
        refine q_isub (d := 0) hx hb dX10_beside_100 (by omega) ?_
        refine lv_iconst (v := nI 1) hx hb dX10_beside_101 (by decide) ?_
        refine lv_icmp_ne (tgt := 120) hx hb dX10_beside_102 (by decide) (fun _ => ?_) (fun c9 => absurd c9 (by decide))
        refine lv_iconst (v := nI 0) hx hb dX10_beside_120 (by decide) ?_
        exact W.zret (v := nI 0) hx hb hr (by decide) (fun t9 ht _ => ⟨nI 0, rfl, (if_neg (by omega)).symm, ht⟩) (fun _ h => absurd h List.not_mem_nil) dX10_beside_121
      · skip
        refine lv_iload hx hb dX10_beside_69 (lv_at hl 1 rfl) ?_
        refine lv_goto (tgt := 75) hx hb dX10_beside_71 (by decide) ?_
        refine lv_istore (lv' := [(6, .int (nI (kyf y9))), (5, .int (nI (kyf x9))), (4, .int (nI (kyf y9))), (3, .int (nI (kyf x9))), (0, .ref mo), (1, .int (nI x9)), (2, .int (nI y9))]) hx hb dX10_beside_75 hl (by decide) rfl (fun ls hl => ?_)
        refine lv_iload hx hb dX10_beside_77 (lv_at hl 0 rfl) ?_
        refine lv_bipush (v := nI 10) hx hb dX10_beside_79 (by decide) ?_
        refine lv_irem hx hb dX10_beside_81 (by decide) ?_
        refine q_cvi (pk_rem (by omega) (by decide) (by decide)) ?_
        refine lv_iload hx hb dX10_beside_82 (lv_at hl 1 rfl) ?_
        refine lv_bipush (v := nI 10) hx hb dX10_beside_84 (by decide) ?_
        refine lv_irem hx hb dX10_beside_86 (by decide) ?_
        refine q_cvi (pk_rem (by omega) (by decide) (by decide)) ?_
        refine lv_isub hx hb dX10_beside_87 ?_
        refine lv_istore (lv' := [(7, .int ((nI ((kyf y9) % 10)) - (nI ((kyf x9) % 10)))), (6, .int (nI (kyf y9))), (5, .int (nI (kyf x9))), (4, .int (nI (kyf y9))), (3, .int (nI (kyf x9))), (0, .ref mo), (1, .int (nI x9)), (2, .int (nI y9))]) hx hb dX10_beside_88 hl (by decide) rfl (fun ls hl => ?_)
        refine lv_iload hx hb dX10_beside_90 (lv_at hl 1 rfl) ?_
        refine lv_bipush (v := nI 10) hx hb dX10_beside_92 (by decide) ?_
        refine lv_idiv hx hb dX10_beside_94 (by decide) ?_
        refine q_cvi (pk_div (by omega) (by decide) (by decide)) ?_
        refine lv_iload hx hb dX10_beside_95 (lv_at hl 2 rfl) ?_
        refine lv_bipush (v := nI 10) hx hb dX10_beside_97 (by decide) ?_
        refine lv_idiv hx hb dX10_beside_99 (by decide) ?_
        refine q_cvi (pk_div (by omega) (by decide) (by decide)) ?_
        refine q_isub (d := (kyf y9) / 10 - (kyf x9) / 10) hx hb dX10_beside_100 (by omega) ?_
        refine lv_iconst (v := nI 1) hx hb dX10_beside_101 (by decide) ?_
        refine q_icmp_ne (a := (kyf y9) / 10 - (kyf x9) / 10) (b := 1) (tgt := 120) hx hb dX10_beside_102 (by decide) (by omega) (by omega) (fun c_102 => ?_) (fun c_102 => ?_)
        · skip
          refine lv_iconst (v := nI 0) hx hb dX10_beside_120 (by decide) ?_
          exact W.zret (v := nI 0) hx hb hr (by decide) (fun t9 ht _ => ⟨nI 0, rfl, (if_neg (by omega)).symm, ht⟩) (fun _ h => absurd h List.not_mem_nil) dX10_beside_121
        · skip
          refine lv_iload hx hb dX10_beside_105 (lv_at hl 0 rfl) ?_
          refine lv_if_eq (tgt := 116) hx hb dX10_beside_107 (by decide) (fun c_107 => ?_) (fun c_107 => ?_)
          · skip
            rw [q_d0 (by omega) (by omega)] at c_107
            refine lv_iconst (v := nI 1) hx hb dX10_beside_116 (by decide) ?_
            refine lv_goto (tgt := 121) hx hb dX10_beside_117 (by decide) ?_
            exact W.zret (v := nI 1) hx hb hr (by decide) (fun t9 ht _ => ⟨nI 1, rfl, (if_pos (by omega)).symm, ht⟩) (fun _ h => absurd h List.not_mem_nil) dX10_beside_121
          · skip
            rw [q_d0 (by omega) (by omega)] at c_107
            refine lv_iload hx hb dX10_beside_110 (lv_at hl 0 rfl) ?_
            refine lv_iconst (v := (-1)) hx hb dX10_beside_112 (by decide) ?_
            refine lv_icmp_ne (tgt := 120) hx hb dX10_beside_113 (by decide) (fun c_113 => ?_) (fun c_113 => ?_)
            · skip
              rw [q_dm (by omega) (by omega)] at c_113
              refine lv_iconst (v := nI 0) hx hb dX10_beside_120 (by decide) ?_
              exact W.zret (v := nI 0) hx hb hr (by decide) (fun t9 ht _ => ⟨nI 0, rfl, (if_neg (by omega)).symm, ht⟩) (fun _ h => absurd h List.not_mem_nil) dX10_beside_121
            · skip
              rw [q_dm (by omega) (by omega)] at c_113
              refine lv_iconst (v := nI 1) hx hb dX10_beside_116 (by decide) ?_
              refine lv_goto (tgt := 121) hx hb dX10_beside_117 (by decide) ?_
              exact W.zret (v := nI 1) hx hb hr (by decide) (fun t9 ht _ => ⟨nI 1, rfl, (if_pos (by omega)).symm, ht⟩) (fun _ h => absurd h List.not_mem_nil) dX10_beside_121
  · skip
    refine lv_iload_n hx hb dX10_beside_27 rfl (lv_at hl 1 rfl) ?_
    refine lv_iload hx hb dX10_beside_28 (lv_at hl 0 rfl) ?_
    refine lv_isub hx hb dX10_beside_30 ?_
    refine lv_iconst (v := nI 1) hx hb dX10_beside_31 (by decide) ?_
    refine lv_icmp_eq (tgt := 43) hx hb dX10_beside_32 (by decide) (fun c_32 => ?_) (fun c_32 => ?_)
    · skip
      rw [q_e1 (kyf_lt _ (by omega)) (kyf_lt _ (by omega))] at c_32
      refine lv_iconst (v := nI 1) hx hb dX10_beside_43 (by decide) ?_
      refine lv_goto (tgt := 48) hx hb dX10_beside_44 (by decide) ?_
      exact W.zret (v := nI 1) hx hb hr (by decide) (fun t9 ht _ => ⟨nI 1, rfl, (if_pos (by omega)).symm, ht⟩) (fun _ h => absurd h List.not_mem_nil) dX10_beside_48
    · skip
      rw [q_e1 (kyf_lt _ (by omega)) (kyf_lt _ (by omega))] at c_32
      refine lv_iload hx hb dX10_beside_35 (lv_at hl 0 rfl) ?_
      refine lv_iload_n hx hb dX10_beside_37 rfl (lv_at hl 1 rfl) ?_
      refine lv_isub hx hb dX10_beside_38 ?_
      refine lv_iconst (v := nI 1) hx hb dX10_beside_39 (by decide) ?_
      refine lv_icmp_ne (tgt := 47) hx hb dX10_beside_40 (by decide) (fun c_40 => ?_) (fun c_40 => ?_)
      · skip
        rw [q_e1 (kyf_lt _ (by omega)) (kyf_lt _ (by omega))] at c_40
        refine lv_iconst (v := nI 0) hx hb dX10_beside_47 (by decide) ?_
        exact W.zret (v := nI 0) hx hb hr (by decide) (fun t9 ht _ => ⟨nI 0, rfl, (if_neg (by omega)).symm, ht⟩) (fun _ h => absurd h List.not_mem_nil) dX10_beside_48
      · skip
        rw [q_e1 (kyf_lt _ (by omega)) (kyf_lt _ (by omega))] at c_40
        refine lv_iconst (v := nI 1) hx hb dX10_beside_43 (by decide) ?_
        refine lv_goto (tgt := 48) hx hb dX10_beside_44 (by decide) ?_
        exact W.zret (v := nI 1) hx hb hr (by decide) (fun t9 ht _ => ⟨nI 1, rfl, (if_pos (by omega)).symm, ht⟩) (fun _ h => absurd h List.not_mem_nil) dX10_beside_48
