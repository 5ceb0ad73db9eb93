set_option maxRecDepth 20000 in
theorem iX10_layRows_X10 : ∀ w ∈ wsX100, w ∈ wsX10_layRows := by decide +kernel
set_option maxHeartbeats 4000000 in
set_option maxRecDepth 100000 in
/-- layRows -/
theorem c_X10_layRows (l : Launch) (D : va_G) (sz : Nat) (mo : Nat) (mw : Nat) (mct : Nat) (mp : Nat) (mnm : Nat) (m1 : Nat) (m2 : Nat) (mt : Nat) (mk : Nat) (mr : Nat) (ml : Nat) (mq : Nat) (k1 : ClassId) (k2 : ClassId) (k5 : ClassId) (k6 : ClassId) (k7 : ClassId) (k9c : ClassId) (th : Int32) (n : Nat) (om : Int32) (tm : Int32) (f1 : Nat → Int32) (f2 : Nat → Int32) (ft : Nat → Int32) (fr : Nat → Int64) (wd : Nat → Nat) (ct : Nat → Nat) (a : Nat) (k : Nat) (hnd : ([mo, m1, m2, mt, mr] ++ [mw, mct]).Nodup) (hga : gw a) (hn40 : n ≤ 40) (hgw : ∀ k, k < n → gw (wd k)) (hcb : ∀ k, k < n → ct k < 2 ^ 31) (hk3 : k ≤ 3) : Met l yX10_layRows wsX10_layRows { frames := 4, cells := 0, slots := 0, locals := 106 } (va_Pc [.ref mo, .long (lN a), .int (nI k)] (qW D sz ([(mw, .inl (k1, 40, .inr (.inl (fun k9 => lN (wd k9))))), (mct, .inl (k2, 40, .inl (fun k9 => nI (ct k9))))]) [(mo, .inr (9, [.int th, .int (nI n), .ref mw, .ref mct, .ref mp, .ref mnm, .ref m1, .ref m2, .int om, .int tm, .ref mt, .ref mk, .ref mr, .ref ml, .ref mq])), (m1, .inl (k5, 11, .inl f1)), (m2, .inl (k6, 11, .inl f2)), (mt, .inl (k7, 121, .inl ft)), (mr, .inl (k9c, 401, .inr (.inl fr)))] [(k5, .int), (k6, .int), (k7, .int), (k9c, .long), (k1, .long), (k2, .int)])) (va_Qi (fun (rv : Int32) (uv : (Int32) × (Int32) × (Nat → Int32) × (Nat → Int32) × (Nat → Int32) × (Nat → Int64)) => rv = nI (List.length (lrn wd ct a k n)) ∧ ∀ j, j < List.length (lrn wd ct a k n) → uv.2.2.2.2.2 j = lN (List.getD (lrn wd ct a k n) j 0)) (fun (uv : (Int32) × (Int32) × (Nat → Int32) × (Nat → Int32) × (Nat → Int32) × (Nat → Int64)) (tv : State) => va_P D vwCl [(mo, .inr (9, [.int th, .int (nI n), .ref mw, .ref mct, .ref mp, .ref mnm, .ref m1, .ref m2, .int uv.1, .int uv.2.1, .ref mt, .ref mk, .ref mr, .ref ml, .ref mq])), (m1, .inl (k5, 11, .inl uv.2.2.1)), (m2, .inl (k6, 11, .inl uv.2.2.2.1)), (mt, .inl (k7, 121, .inl uv.2.2.2.2.1)), (mr, .inl (k9c, 401, .inr (.inl uv.2.2.2.2.2)))] tv.heap) (va_A [(mo, .inr (9, [.int th, .int (nI n), .ref mw, .ref mct, .ref mp, .ref mnm, .ref m1, .ref m2, .int om, .int tm, .ref mt, .ref mk, .ref mr, .ref ml, .ref mq])), (m1, .inl (k5, 11, .inl f1)), (m2, .inl (k6, 11, .inl f2)), (mt, .inl (k7, 121, .inl ft)), (mr, .inl (k9c, 401, .inr (.inl fr)))] sz)) 0 0 (va_A [(mo, .inr (9, [.int th, .int (nI n), .ref mw, .ref mct, .ref mp, .ref mnm, .ref m1, .ref m2, .int om, .int tm, .ref mt, .ref mk, .ref mr, .ref ml, .ref mq])), (m1, .inl (k5, 11, .inl f1)), (m2, .inl (k6, 11, .inl f2)), (mt, .inl (k7, 121, .inl ft)), (mr, .inl (k9c, 401, .inr (.inl fr)))] sz) := by
  refine Met.ofW (cc := cX10_layRows) (maxL := 11) (ret := (some .int)) (by decide) rfl ?_
  intro pM eM s mi9 argsM belowM methM cM sM B hml hv
  obtain ⟨rfl, hsz, hR0, hP, hK, hNw⟩ := hv
  have hx := B.exec
  have hb := B.bytes
  have hr := B.returns
  have hts := atoms_spec (ws := wsX10_layRows) B.pre
  have hown : s.vm.findClass RX10 = some mi9.cls := findClass_of_methodNamed B.named
  have hlocks := B.notSynchronized
  subst hsz
  have hna := q_na (RW := [(mo, .inr (9, [.int th, .int (nI n), .ref mw, .ref mct, .ref mp, .ref mnm, .ref m1, .ref m2, .int om, .int tm, .ref mt, .ref mk, .ref mr, .ref ml, .ref mq])), (m1, .inl (k5, 11, .inl f1)), (m2, .inl (k6, 11, .inl f2)), (mt, .inl (k7, 121, .inl ft)), (mr, .inl (k9c, 401, .inr (.inl fr)))]) (RO := [(mw, .inl (k1, 40, .inr (.inl (fun k9 => lN (wd k9))))), (mct, .inl (k2, 40, .inl (fun k9 => nI (ct k9))))]) hnd rfl rfl hR0
  have hD := q_D (RW := [(mo, .inr (9, [.int th, .int (nI n), .ref mw, .ref mct, .ref mp, .ref mnm, .ref m1, .ref m2, .int om, .int tm, .ref mt, .ref mk, .ref mr, .ref ml, .ref mq])), (m1, .inl (k5, 11, .inl f1)), (m2, .inl (k6, 11, .inl f2)), (mt, .inl (k7, 121, .inl ft)), (mr, .inl (k9c, 401, .inr (.inl fr)))]) (sz := s.heap.size) hnd rfl
  have hA : ∀ q : Nat, s.heap.size ≤ q → va_A [(mo, .inr (9, [.int th, .int (nI n), .ref mw, .ref mct, .ref mp, .ref mnm, .ref m1, .ref m2, .int om, .int tm, .ref mt, .ref mk, .ref mr, .ref ml, .ref mq])), (m1, .inl (k5, 11, .inl f1)), (m2, .inl (k6, 11, .inl f2)), (mt, .inl (k7, 121, .inl ft)), (mr, .inl (k9c, 401, .inr (.inl fr)))] s.heap.size q := fun q h => Or.inr h
  generalize hAe : va_A [(mo, .inr (9, [.int th, .int (nI n), .ref mw, .ref mct, .ref mp, .ref mnm, .ref m1, .ref m2, .int om, .int tm, .ref mt, .ref mk, .ref mr, .ref ml, .ref mq])), (m1, .inl (k5, 11, .inl f1)), (m2, .inl (k6, 11, .inl f2)), (mt, .inl (k7, 121, .inl ft)), (mr, .inl (k9c, 401, .inr (.inl fr)))] s.heap.size = A at hna hD hA ⊢
  have hS : va_S A s.heap s.heap [] := va_S.rf
  have hR := hR0
  have hP : va_P D vwCl [(mo, .inr (9, [.int th, .int (nI n), .ref mw, .ref mct, .ref mp, .ref mnm, .ref m1, .ref m2, .int om, .int tm, .ref mt, .ref mk, .ref mr, .ref ml, .ref mq])), (m1, .inl (k5, 11, .inl f1)), (m2, .inl (k6, 11, .inl f2)), (mt, .inl (k7, 121, .inl ft)), (mr, .inl (k9c, 401, .inr (.inl fr)))] s.heap := hP
  have hl := lv_entry ([.ref mo, .long (lN a), .int (nI k)]) (n := 11) (Nat.le_of_ble_eq_true rfl)
  rw [lg_entry_eq]
  generalize (lg_sl ([.ref mo, .long (lN a), .int (nI k)]) ++ List.replicate (11 - (lg_sl ([.ref mo, .long (lN a), .int (nI k)])).length) Slot.unset).toArray = ls at hl ⊢
  have hl : lv_has ls 11 [(0, .ref mo), (1, .long (lN a)), (3, .int (nI k))] := hl
  have hwa := gw_wl hga
  have hla := gw_lt hga
  refine lv_iconst (v := nI 0) hx hb dX10_layRows_0 (by decide) ?_
  refine lv_istore (lv' := [(4, .int (nI 0)), (0, .ref mo), (1, .long (lN a)), (3, .int (nI k))]) hx hb dX10_layRows_1 hl (by decide) rfl (fun ls hl => ?_)
  refine lv_aload_n hx hb dX10_layRows_3 rfl (lv_at hl 1 rfl) ?_
  refine lv_lconst (v := lN 0) hx hb dX10_layRows_4 (by decide) ?_
  refine lv_lload_n hx hb dX10_layRows_5 rfl (lv_at hl 2 rfl) ?_
  refine lv_iload_n hx hb dX10_layRows_6 rfl (lv_at hl 3 rfl) ?_
  have hF := va_free (wc := [(mo, .inr (9, [.int th, .int (nI n), .ref mw, .ref mct, .ref mp, .ref mnm, .ref m1, .ref m2, .int om, .int tm, .ref mt, .ref mk, .ref mr, .ref ml, .ref mq])), (m1, .inl (k5, 11, .inl f1)), (m2, .inl (k6, 11, .inl f2)), (mt, .inl (k7, 121, .inl ft))]) hD hS hA [0, 1, 2, 3] rfl
  refine va_calll (va_runV (As := [.long (lN 0), .long (lN a), .int (nI k)]) (rest := []) ⟨hx, hb, hml, hown, hts⟩ (c_X10_rowOf (l := l) (D := D) (mo := mo) (mw := mw) (mct := mct) (mp := mp) (mnm := mnm) (m1 := m1) (m2 := m2) (mt := mt) (mk := mk) (mr := mr) (ml := ml) (mq := mq) (k5 := k5) (k6 := k6) (k7 := k7) (th := th) (n := n) (om := om) (tm := tm) (f1 := f1) (f2 := f2) (ft := ft) (h := 0) (a := a) (k := k) (sz := s.heap.size) (hnd := (q_nds hnd [0, 1, 2, 3] rfl rfl)) (hwh := by rw [wl_0]; omega) (hlh := by omega) (hwa := hwa) (hla := by omega) (hk3 := hk3)) (cwV 3 hts gX10_layRows_X10_rowOf rfl rfl rfl (by decide +kernel) ⟨Nat.le_of_ble_eq_true rfl, Nat.le_of_ble_eq_true rfl⟩) ⟨qW_blind, (va_recv hK hP (ci := 9) (q0 := 0) rfl rfl), (qW_of (q_Pof (fun _ h => absurd h List.not_mem_nil)) (hP.sub (ws' := [(mo, .inr (9, [.int th, .int (nI n), .ref mw, .ref mct, .ref mp, .ref mnm, .ref m1, .ref m2, .int om, .int tm, .ref mt, .ref mk, .ref mr, .ref ml, .ref mq])), (m1, .inl (k5, 11, .inl f1)), (m2, .inl (k6, 11, .inl f2)), (mt, .inl (k7, 121, .inl ft))]) [0, 1, 2, 3] rfl) (hK.sub (tys' := [(k5, .int), (k6, .int), (k7, .int)]) [0, 1, 2] rfl) hNw)⟩ rfl rfl hl.1 rfl (lv_room (Nat.le_of_ble_eq_true rfl)) dX10_layRows_7 ⟨Nat.le_of_ble_eq_true rfl, Nat.le_of_ble_eq_true rfl⟩) hS (fun q _ h => hF q h) hF (fun r_1 u_5 t_4 H_2 locs_3 ht hvm hr_1 hB hz1 hk1 hS => ?_)
  obtain ⟨g1_6, g2_7, g3_8⟩ := u_5
  dsimp only at hr_1 hB
  replace hB : va_P D vwCl [(mo, .inr (9, [.int th, .int (nI n), .ref mw, .ref mct, .ref mp, .ref mnm, .ref m1, .ref m2, .int (nI (wl 0)), .int (nI (wl a)), .ref mt, .ref mk, .ref mr, .ref ml, .ref mq])), (m1, .inl (k5, 11, .inl g1_6)), (m2, .inl (k6, 11, .inl g2_7)), (mt, .inl (k7, 121, .inl g3_8))] H_2 := by rw [← ht]; exact hB
  obtain ⟨hP, hD⟩ := q_join (wc := [(mo, .inr (9, [.int th, .int (nI n), .ref mw, .ref mct, .ref mp, .ref mnm, .ref m1, .ref m2, .int om, .int tm, .ref mt, .ref mk, .ref mr, .ref ml, .ref mq])), (m1, .inl (k5, 11, .inl f1)), (m2, .inl (k6, 11, .inl f2)), (mt, .inl (k7, 121, .inl ft))]) (w1 := [(mo, .inr (9, [.int th, .int (nI n), .ref mw, .ref mct, .ref mp, .ref mnm, .ref m1, .ref m2, .int (nI (wl 0)), .int (nI (wl a)), .ref mt, .ref mk, .ref mr, .ref ml, .ref mq])), (m1, .inl (k5, 11, .inl g1_6)), (m2, .inl (k6, 11, .inl g2_7)), (mt, .inl (k7, 121, .inl g3_8))]) (ws' := [(mo, .inr (9, [.int th, .int (nI n), .ref mw, .ref mct, .ref mp, .ref mnm, .ref m1, .ref m2, .int (nI (wl 0)), .int (nI (wl a)), .ref mt, .ref mk, .ref mr, .ref ml, .ref mq])), (m1, .inl (k5, 11, .inl g1_6)), (m2, .inl (k6, 11, .inl g2_7)), (mt, .inl (k7, 121, .inl g3_8)), (mr, .inl (k9c, 401, .inr (.inl fr)))]) [0, 1, 2, 3] hP hD rfl rfl hk1 hB rfl
  have hR := q_ro hR0 hna hS
  subst hr_1
  refine lv_lstore (lv' := [(5, .long (rwo a k 0)), (4, .int (nI 0)), (0, .ref mo), (1, .long (lN a)), (3, .int (nI k))]) hx hb dX10_layRows_10 hl (by decide) rfl (fun ls hl => ?_)
  refine lv_lload hx hb dX10_layRows_12 (lv_at hl 0 rfl) ?_
  refine lv_lconst (v := lN 0) hx hb dX10_layRows_14 (by decide) ?_
  refine W.lcmp hx hb dX10_layRows_15 ?_
  refine q_cut 31 (fun (x : (Int32) × (Int32) × (Nat → Int32) × (Nat → Int32) × (Nat → Int32) × (Nat → Int64)) (H : Heap) (locs : List Loc) (ls : Array Slot) (st : List Value) => match x with | (oa, ta, u1, u2, u3, s0) => (∀ j, j < List.length (lrn wd ct a k 0) → s0 j = lN (List.getD (lrn wd ct a k 0) j 0)) ∧ va_P D vwCl [(mo, .inr (9, [.int th, .int (nI n), .ref mw, .ref mct, .ref mp, .ref mnm, .ref m1, .ref m2, .int oa, .int ta, .ref mt, .ref mk, .ref mr, .ref ml, .ref mq])), (m1, .inl (k5, 11, .inl u1)), (m2, .inl (k6, 11, .inl u2)), (mt, .inl (k7, 121, .inl u3)), (mr, .inl (k9c, 401, .inr (.inl s0)))] H ∧ va_D A [(mo, .inr (9, [.int th, .int (nI n), .ref mw, .ref mct, .ref mp, .ref mnm, .ref m1, .ref m2, .int oa, .int ta, .ref mt, .ref mk, .ref mr, .ref ml, .ref mq])), (m1, .inl (k5, 11, .inl u1)), (m2, .inl (k6, 11, .inl u2)), (mt, .inl (k7, 121, .inl u3)), (mr, .inl (k9c, 401, .inr (.inl s0)))] ∧ va_S A s.heap H locs ∧ lv_has ls 11 [(4, .int (nI (List.length (lrn wd ct a k 0)))), (0, .ref mo), (1, .long (lN a)), (3, .int (nI k))] ∧ [] = st) ?_ ?_
  · clear hl; clear hP hD hS
    rintro ⟨oa, ta, u1, u2, u3, s0⟩ H locs ls st hI
    obtain ⟨hS0, hP, hD, hS, hl, rfl⟩ := hI
    have hR := q_ro hR0 hna hS
    refine lv_iconst (v := nI 0) hx hb dX10_layRows_31 (by decide) ?_
    refine lv_istore (lv' := [(7, .int (nI 0)), (4, .int (nI (List.length (lrn wd ct a k 0)))), (0, .ref mo), (1, .long (lN a)), (3, .int (nI k))]) hx hb dX10_layRows_32 hl (by decide) rfl (fun ls hl => ?_)
    refine q_loop (fun (x : (Nat) × (Int32) × (Int32) × (Nat → Int32) × (Nat → Int32) × (Nat → Int32) × (Nat → Int64)) (H : Heap) (locs : List Loc) (ls : Array Slot) => match x with | (i, oa, ta, u1, u2, u3, s1) => (i ≤ n) ∧ (∀ j, j < List.length (lrn wd ct a k i) → s1 j = lN (List.getD (lrn wd ct a k i) j 0)) ∧ va_P D vwCl [(mo, .inr (9, [.int th, .int (nI n), .ref mw, .ref mct, .ref mp, .ref mnm, .ref m1, .ref m2, .int oa, .int ta, .ref mt, .ref mk, .ref mr, .ref ml, .ref mq])), (m1, .inl (k5, 11, .inl u1)), (m2, .inl (k6, 11, .inl u2)), (mt, .inl (k7, 121, .inl u3)), (mr, .inl (k9c, 401, .inr (.inl s1)))] H ∧ va_D A [(mo, .inr (9, [.int th, .int (nI n), .ref mw, .ref mct, .ref mp, .ref mnm, .ref m1, .ref m2, .int oa, .int ta, .ref mt, .ref mk, .ref mr, .ref ml, .ref mq])), (m1, .inl (k5, 11, .inl u1)), (m2, .inl (k6, 11, .inl u2)), (mt, .inl (k7, 121, .inl u3)), (mr, .inl (k9c, 401, .inr (.inl s1)))] ∧ va_S A s.heap H locs ∧ lv_has ls 11 [(7, .int (nI i)), (4, .int (nI (List.length (lrn wd ct a k i)))), (0, .ref mo), (1, .long (lN a)), (3, .int (nI k))]) (fun (x : (Nat) × (Int32) × (Int32) × (Nat → Int32) × (Nat → Int32) × (Nat → Int32) × (Nat → Int64)) => match x with | (i, oa, ta, u1, u2, u3, s1) => n - i) (0, oa, ta, u1, u2, u3, s0) ⟨(by omega), hS0, hP, hD, hS, (lv_sub hl [0, 1, 2, 3, 4] rfl)⟩ ?_
    clear hl
    clear hP hD hS
    rintro ⟨i, oa, ta, u1, u2, u3, s1⟩ H locs ls hI ih_34
    obtain ⟨hi, hS1, hP, hD, hS, hl⟩ := hI
    have hR := q_ro hR0 hna hS
    refine lv_iload hx hb dX10_layRows_34 (lv_at hl 0 rfl) ?_
    refine lv_aload_n hx hb dX10_layRows_36 rfl (lv_at hl 2 rfl) ?_
    refine va_get (D := D) (own := RX10) (ref := "FuzzyFensModel") (ci := 9) (v := .int (nI n)) (C := RX10) (T := TX10) (N := 15) hx hb hts iX10_layRows_X10 hown hK hP 0 rfl rfl 1 (by decide) (hts (.fieldLink RX10 77 "FuzzyFensModel" "many" "I") (List.mem_of_getElem? (i := 2) rfl)) (fun _ h9 => h9) rfl dX10_layRows_37 ?_
    refine q_icmp_ge (a := i) (b := n) (tgt := 121) hx hb dX10_layRows_40 (by decide) (by omega) (by omega) (fun c_40 => ?_) (fun c_40 => ?_)
    · skip
      refine lv_iload hx hb dX10_layRows_121 (lv_at hl 1 rfl) ?_
      have ein : i = n := by omega
      exact W.iret (v := nI (List.length (lrn wd ct a k i))) hx hb hr (fun t9 ht hW => ⟨⟨nI (List.length (lrn wd ct a k i)), (oa, ta, u1, u2, u3, s1), rfl, ⟨(by rw [ein]), (by rw [← ein]; exact hS1)⟩, by show va_P D vwCl _ t9.heap; rw [ht]; exact hP⟩, hS.F ht⟩) hS.2.2 dX10_layRows_123
    · skip
      refine lv_iconst (v := nI 1) hx hb dX10_layRows_43 (by decide) ?_
      refine lv_istore (lv' := [(8, .int (nI 1)), (7, .int (nI i)), (4, .int (nI (List.length (lrn wd ct a k i)))), (0, .ref mo), (1, .long (lN a)), (3, .int (nI k))]) hx hb dX10_layRows_44 hl (by decide) rfl (fun ls hl => ?_)
      refine q_loop (fun (x : (Nat) × (Int32) × (Int32) × (Nat → Int32) × (Nat → Int32) × (Nat → Int32) × (Nat → Int64)) (H : Heap) (locs : List Loc) (ls : Array Slot) => match x with | (q, ob, tb, v1, v2, v3, s2) => (q ≤ 10) ∧ (∀ j, j < List.length (lri wd ct a k i (lrn wd ct a k i) q) → s2 j = lN (List.getD (lri wd ct a k i (lrn wd ct a k i) q) j 0)) ∧ va_P D vwCl [(mo, .inr (9, [.int th, .int (nI n), .ref mw, .ref mct, .ref mp, .ref mnm, .ref m1, .ref m2, .int ob, .int tb, .ref mt, .ref mk, .ref mr, .ref ml, .ref mq])), (m1, .inl (k5, 11, .inl v1)), (m2, .inl (k6, 11, .inl v2)), (mt, .inl (k7, 121, .inl v3)), (mr, .inl (k9c, 401, .inr (.inl s2)))] H ∧ va_D A [(mo, .inr (9, [.int th, .int (nI n), .ref mw, .ref mct, .ref mp, .ref mnm, .ref m1, .ref m2, .int ob, .int tb, .ref mt, .ref mk, .ref mr, .ref ml, .ref mq])), (m1, .inl (k5, 11, .inl v1)), (m2, .inl (k6, 11, .inl v2)), (mt, .inl (k7, 121, .inl v3)), (mr, .inl (k9c, 401, .inr (.inl s2)))] ∧ va_S A s.heap H locs ∧ lv_has ls 11 [(8, .int (nI (q + 1))), (7, .int (nI i)), (4, .int (nI (List.length (lri wd ct a k i (lrn wd ct a k i) q)))), (0, .ref mo), (1, .long (lN a)), (3, .int (nI k))]) (fun (x : (Nat) × (Int32) × (Int32) × (Nat → Int32) × (Nat → Int32) × (Nat → Int32) × (Nat → Int64)) => match x with | (q, ob, tb, v1, v2, v3, s2) => 10 - q) (0, oa, ta, u1, u2, u3, s1) ⟨(by omega), hS1, hP, hD, hS, (lv_sub hl [0, 1, 2, 3, 4, 5] rfl)⟩ ?_
      clear hl
      clear hP hD hS
      rintro ⟨q, ob, tb, v1, v2, v3, s2⟩ H locs ls hI ih_46
      obtain ⟨hq, hS2, hP, hD, hS, hl⟩ := hI
      have hR := q_ro hR0 hna hS
      refine lv_iload hx hb dX10_layRows_46 (lv_at hl 0 rfl) ?_
      refine lv_bipush (v := nI 10) hx hb dX10_layRows_48 (by decide) ?_
      refine q_icmp_gt (a := q + 1) (b := 10) (tgt := 115) hx hb dX10_layRows_50 (by decide) (by omega) (by omega) (fun c_50 => ?_) (fun c_50 => ?_)
      · skip
        refine lv_iinc (v := nI (i + 1)) (lv' := [(7, .int (nI (i + 1))), (8, .int (nI (q + 1))), (4, .int (nI (List.length (lri wd ct a k i (lrn wd ct a k i) q)))), (0, .ref mo), (1, .long (lN a)), (3, .int (nI k))]) hx hb dX10_layRows_115 hl (k := 1) rfl (q_inc (k := 1) (by omega)) (by decide) rfl (fun ls hl => ?_)
        refine lv_goto (tgt := 34) hx hb dX10_layRows_118 (by decide) ?_
        have e10 : q = 10 := by omega
        rw [e10] at hl hS2
        exact ih_34 (i + 1, ob, tb, v1, v2, v3, s2) _ _ _ ⟨(by omega), hS2, hP, hD, hS, (lv_sub hl [0, 2, 3, 4, 5] rfl)⟩ (by show n - (i + 1) < n - i; omega)
      · skip
        refine lv_aload_n hx hb dX10_layRows_53 rfl (lv_at hl 3 rfl) ?_
        refine lv_iload hx hb dX10_layRows_54 (lv_at hl 1 rfl) ?_
        refine lv_iload hx hb dX10_layRows_56 (lv_at hl 0 rfl) ?_
        refine vp_callSi (W.runV (As := [.int (nI i), .int (nI (q + 1))]) (rest := []) ⟨hx, hb, hml, hown, hts⟩ (c_X10_isFirstWith (l := l) (D := D) (mo := mo) (mw := mw) (mct := mct) (mp := mp) (mnm := mnm) (m1 := m1) (m2 := m2) (mt := mt) (mk := mk) (mr := mr) (ml := ml) (mq := mq) (k1 := k1) (k2 := k2) (th := th) (n := n) (om := ob) (tm := tb) (wd := wd) (ct := ct) (i := i) (k := q + 1) (hn40 := hn40) (hgw := by omega) (hcb := by omega) (hi := by omega) (hk10 := by omega)) (cwV 2 hts gX10_layRows_X10_isFirstWith rfl rfl rfl (by decide +kernel) ⟨Nat.le_of_ble_eq_true rfl, Nat.le_of_ble_eq_true rfl⟩) ⟨qP_blind, (va_recv hK hP (ci := 9) (q0 := 0) rfl rfl), (qP_of (show va_P D vwCl [(mo, .inr (9, [.int th, .int (nI n), .ref mw, .ref mct, .ref mp, .ref mnm, .ref m1, .ref m2, .int ob, .int tb, .ref mt, .ref mk, .ref mr, .ref ml, .ref mq])), (mw, .inl (k1, 40, .inr (.inl (fun k9 => lN (wd k9))))), (mct, .inl (k2, 40, .inl (fun k9 => nI (ct k9))))] _ from (va_P.app (hP.sub (ws' := [(mo, .inr (9, [.int th, .int (nI n), .ref mw, .ref mct, .ref mp, .ref mnm, .ref m1, .ref m2, .int ob, .int tb, .ref mt, .ref mk, .ref mr, .ref ml, .ref mq]))]) [0] rfl) (va_P.app (hR.sub (ws' := [(mw, .inl (k1, 40, .inr (.inl (fun k9 => lN (wd k9)))))]) [0] rfl) (hR.sub (ws' := [(mct, .inl (k2, 40, .inl (fun k9 => nI (ct k9))))]) [1] rfl)))) (hK.sub (tys' := [(k1, .long), (k2, .int)]) [4, 5] rfl) hNw)⟩ rfl rfl hl.1 rfl (lv_room (Nat.le_of_ble_eq_true rfl)) dX10_layRows_58 ⟨Nat.le_of_ble_eq_true rfl, Nat.le_of_ble_eq_true rfl⟩) (fun r_9 hr_9 => ?_)
        subst hr_9
        have hwi := gw_wl (hgw i (by omega))
        have hli := gw_lt (hgw i (by omega))
        refine q_cut 88 (fun (x : (Int64) × (Int32) × (Int32) × (Nat → Int32) × (Nat → Int32) × (Nat → Int32)) (H : Heap) (locs : List Loc) (ls : Array Slot) (st : List Value) => match x with | (y, oc9, tc9, w1, w2, w3) => (y = if fwd1 wd ct i (q + 1) then rwo a k (beg (wd i) (q + 1)) else -1) ∧ va_P D vwCl [(mo, .inr (9, [.int th, .int (nI n), .ref mw, .ref mct, .ref mp, .ref mnm, .ref m1, .ref m2, .int oc9, .int tc9, .ref mt, .ref mk, .ref mr, .ref ml, .ref mq])), (m1, .inl (k5, 11, .inl w1)), (m2, .inl (k6, 11, .inl w2)), (mt, .inl (k7, 121, .inl w3)), (mr, .inl (k9c, 401, .inr (.inl s2)))] H ∧ va_D A [(mo, .inr (9, [.int th, .int (nI n), .ref mw, .ref mct, .ref mp, .ref mnm, .ref m1, .ref m2, .int oc9, .int tc9, .ref mt, .ref mk, .ref mr, .ref ml, .ref mq])), (m1, .inl (k5, 11, .inl w1)), (m2, .inl (k6, 11, .inl w2)), (mt, .inl (k7, 121, .inl w3)), (mr, .inl (k9c, 401, .inr (.inl s2)))] ∧ va_S A s.heap H locs ∧ lv_has ls 11 [(8, .int (nI (q + 1))), (7, .int (nI i)), (4, .int (nI (List.length (lri wd ct a k i (lrn wd ct a k i) q)))), (0, .ref mo), (1, .long (lN a)), (3, .int (nI k))] ∧ [.long y] = st) ?_ ?_
        · clear hl; clear hP hD hS
          rintro ⟨y, oc9, tc9, w1, w2, w3⟩ H locs ls st hI
          obtain ⟨hy, hP, hD, hS, hl, rfl⟩ := hI
          have hR := q_ro hR0 hna hS
          refine lv_lstore (lv' := [(9, .long y), (8, .int (nI (q + 1))), (7, .int (nI i)), (4, .int (nI (List.length (lri wd ct a k i (lrn wd ct a k i) q)))), (0, .ref mo), (1, .long (lN a)), (3, .int (nI k))]) hx hb dX10_layRows_88 hl (by decide) rfl (fun ls hl => ?_)
          refine lv_lload hx hb dX10_layRows_90 (lv_at hl 0 rfl) ?_
          refine lv_lconst (v := lN 0) hx hb dX10_layRows_92 (by decide) ?_
          refine W.lcmp hx hb dX10_layRows_93 ?_
          have hyl : y < lN 0 ↔ ¬ (fwd1 wd ct i (q + 1) ∧ rch a k (beg (wd i) (q + 1))) := by
            rw [hy]
            by_cases e : fwd1 wd ct i (q + 1)
            · rw [if_pos e, rwo_lt hwa hk3]; exact ⟨fun h9 h8 => h9 h8.2, fun h9 h8 => h9 ⟨e, h8⟩⟩
            · rw [if_neg e]; exact ⟨fun _ h8 => e h8.1, fun _ => by decide⟩
          have hll := lri_len (wd := wd) (ct := ct) (a := a) (k := k) (i := i) (L := lrn wd ct a k i) q
          have hln := lrn_len (wd := wd) (ct := ct) (a := a) (k := k) i
          refine q_cut 109 (fun (x : (Nat → Int64)) (H : Heap) (locs : List Loc) (ls : Array Slot) (st : List Value) => match x with | s3 => (∀ j, j < List.length (lri wd ct a k i (lrn wd ct a k i) (q + 1)) → s3 j = lN (List.getD (lri wd ct a k i (lrn wd ct a k i) (q + 1)) j 0)) ∧ va_P D vwCl [(mo, .inr (9, [.int th, .int (nI n), .ref mw, .ref mct, .ref mp, .ref mnm, .ref m1, .ref m2, .int oc9, .int tc9, .ref mt, .ref mk, .ref mr, .ref ml, .ref mq])), (m1, .inl (k5, 11, .inl w1)), (m2, .inl (k6, 11, .inl w2)), (mt, .inl (k7, 121, .inl w3)), (mr, .inl (k9c, 401, .inr (.inl s3)))] H ∧ va_D A [(mo, .inr (9, [.int th, .int (nI n), .ref mw, .ref mct, .ref mp, .ref mnm, .ref m1, .ref m2, .int oc9, .int tc9, .ref mt, .ref mk, .ref mr, .ref ml, .ref mq])), (m1, .inl (k5, 11, .inl w1)), (m2, .inl (k6, 11, .inl w2)), (mt, .inl (k7, 121, .inl w3)), (mr, .inl (k9c, 401, .inr (.inl s3)))] ∧ va_S A s.heap H locs ∧ lv_has ls 11 [(8, .int (nI (q + 1))), (7, .int (nI i)), (4, .int (nI (List.length (lri wd ct a k i (lrn wd ct a k i) (q + 1))))), (0, .ref mo), (1, .long (lN a)), (3, .int (nI k))] ∧ [] = st) ?_ ?_
          · clear hl; clear hP hD hS
            rintro s3 H locs ls st hI
            obtain ⟨hS3, hP, hD, hS, hl, rfl⟩ := hI
            have hR := q_ro hR0 hna hS
            refine lv_iinc (v := nI (q + 2)) (lv' := [(8, .int (nI (q + 2))), (7, .int (nI i)), (4, .int (nI (List.length (lri wd ct a k i (lrn wd ct a k i) (q + 1))))), (0, .ref mo), (1, .long (lN a)), (3, .int (nI k))]) hx hb dX10_layRows_109 hl (k := 0) rfl (q_inc (k := 1) (by omega)) (by decide) rfl (fun ls hl => ?_)
            refine lv_goto (tgt := 46) hx hb dX10_layRows_112 (by decide) ?_
            exact ih_46 (q + 1, oc9, tc9, w1, w2, w3, s3) _ _ _ ⟨(by omega), hS3, hP, hD, hS, (lv_sub hl [0, 1, 2, 3, 4, 5] rfl)⟩ (by show 10 - (q + 1) < 10 - q; omega)
          · intro hcut_109
            have hyl : y < lN 0 ↔ ¬ (fwd1 wd ct i (q + 1) ∧ rch a k (beg (wd i) (q + 1))) := by
              rw [hy]
              by_cases e : fwd1 wd ct i (q + 1)
              · rw [if_pos e, rwo_lt hwa hk3]; exact ⟨fun h9 h8 => h9 h8.2, fun h9 h8 => h9 ⟨e, h8⟩⟩
              · rw [if_neg e]; exact ⟨fun _ h8 => e h8.1, fun _ => by decide⟩
            have hll := lri_len (wd := wd) (ct := ct) (a := a) (k := k) (i := i) (L := lrn wd ct a k i) q
            have hln := lrn_len (wd := wd) (ct := ct) (a := a) (k := k) i
            refine q_lr_lt (tgt := 109) hx hb dX10_layRows_94 (by decide) (fun c_94 => ?_) (fun c_94 => ?_)
            · skip
              rw [hyl] at c_94
              have e9 : lri wd ct a k i (lrn wd ct a k i) (q + 1) = lri wd ct a k i (lrn wd ct a k i) q := lri_k c_94
              exact hcut_109 s2 _ _ _ _ ⟨(by rw [e9]; exact hS2), hP, hD, hS, (by rw [e9]; exact lv_sub hl [1, 2, 3, 4, 5, 6] rfl), rfl⟩
            · skip
              rw [hyl, Decidable.not_not] at c_94
              have e9 : lri wd ct a k i (lrn wd ct a k i) (q + 1) = lri wd ct a k i (lrn wd ct a k i) q ++ [rown a k (beg (wd i) (q + 1))] := lri_s c_94
              have e94 : y = lN (rown a k (beg (wd i) (q + 1))) := by rw [hy, if_pos c_94.1]; exact if_pos c_94.2
              refine lv_aload_n hx hb dX10_layRows_97 rfl (lv_at hl 4 rfl) ?_
              refine va_get (D := D) (own := RX10) (ref := "FuzzyFensModel") (ci := 9) (v := .ref mr) (C := RX10) (T := TX10) (N := 15) hx hb hts iX10_layRows_X10 hown hK hP 0 rfl rfl 12 (by decide) (hts (.fieldLink RX10 35 "FuzzyFensModel" "rows" "[J") (List.mem_of_getElem? (i := 1) rfl)) (fun _ h9 => h9) rfl dX10_layRows_98 ?_
              refine lv_iload hx hb dX10_layRows_101 (lv_at hl 3 rfl) ?_
              refine lv_lload hx hb dX10_layRows_103 (lv_at hl 0 rfl) ?_
              refine q_cvl (show (y) = (lN (rown a k (beg (wd i) (q + 1)))) from e94) ?_
              refine va_last (D := D) hx hb hK hP hD hS 4 3 rfl rfl (vp_in_nI (n := List.length (lri wd ct a k i (lrn wd ct a k i) q)) (N := 401) (by omega) (by decide)) dX10_layRows_105 (fun H_10 locs_11 hP hD hS => ?_)
              rw [nI_clamp (n := List.length (lri wd ct a k i (lrn wd ct a k i) q)) (by omega)] at hP hD
              have hP : va_P D vwCl [(mo, .inr (9, [.int th, .int (nI n), .ref mw, .ref mct, .ref mp, .ref mnm, .ref m1, .ref m2, .int oc9, .int tc9, .ref mt, .ref mk, .ref mr, .ref ml, .ref mq])), (m1, .inl (k5, 11, .inl w1)), (m2, .inl (k6, 11, .inl w2)), (mt, .inl (k7, 121, .inl w3)), (mr, .inl (k9c, 401, .inr (.inl (vp_updL s2 (List.length (lri wd ct a k i (lrn wd ct a k i) q)) (lN (rown a k (beg (wd i) (q + 1))))))))] H_10 := hP
              have hD : va_D A [(mo, .inr (9, [.int th, .int (nI n), .ref mw, .ref mct, .ref mp, .ref mnm, .ref m1, .ref m2, .int oc9, .int tc9, .ref mt, .ref mk, .ref mr, .ref ml, .ref mq])), (m1, .inl (k5, 11, .inl w1)), (m2, .inl (k6, 11, .inl w2)), (mt, .inl (k7, 121, .inl w3)), (mr, .inl (k9c, 401, .inr (.inl (vp_updL s2 (List.length (lri wd ct a k i (lrn wd ct a k i) q)) (lN (rown a k (beg (wd i) (q + 1))))))))] := hD
              have hR := q_ro hR0 hna hS
              refine lv_iinc (v := nI (List.length (lri wd ct a k i (lrn wd ct a k i) q) + 1)) (lv' := [(4, .int (nI (List.length (lri wd ct a k i (lrn wd ct a k i) q) + 1))), (9, .long y), (8, .int (nI (q + 1))), (7, .int (nI i)), (0, .ref mo), (1, .long (lN a)), (3, .int (nI k))]) hx hb dX10_layRows_106 hl (k := 3) rfl (q_inc (k := 1) (by omega)) (by decide) rfl (fun ls hl => ?_)
              exact hcut_109 (vp_updL s2 (List.length (lri wd ct a k i (lrn wd ct a k i) q)) (lN (rown a k (beg (wd i) (q + 1))))) _ _ _ _ ⟨(by rw [e9]; exact cts_app hS2), hP, hD, hS, (by rw [e9, len_app]; exact lv_sub hl [2, 3, 0, 4, 5, 6] rfl), rfl⟩
        · intro hcut_88
          have hwi := gw_wl (hgw i (by omega))
          have hli := gw_lt (hgw i (by omega))
          refine q_ifb_eq (tgt := 85) hx hb dX10_layRows_61 (by decide) (fun c_61 => ?_) (fun c_61 => ?_)
          · skip
            refine lv_ldc2 (v := -1) hx hb hown (hts (.constantLong RX10 148 (-1)) (List.mem_of_getElem? (i := 4) rfl)) dX10_layRows_85 ?_
            exact hcut_88 ((-1), ob, tb, v1, v2, v3) _ _ _ _ ⟨(by rw [if_neg c_61]), hP, hD, hS, (lv_sub hl [0, 1, 2, 3, 4, 5] rfl), rfl⟩
          · skip
            refine lv_aload_n hx hb dX10_layRows_64 rfl (lv_at hl 3 rfl) ?_
            refine lv_aload_n hx hb dX10_layRows_65 rfl (lv_at hl 3 rfl) ?_
            refine va_get (D := D) (own := RX10) (ref := "FuzzyFensModel") (ci := 9) (v := .ref mw) (C := RX10) (T := TX10) (N := 15) hx hb hts iX10_layRows_X10 hown hK hP 0 rfl rfl 2 (by decide) (hts (.fieldLink RX10 7 "FuzzyFensModel" "words" "[J") (List.mem_of_getElem? (i := 3) rfl)) (fun _ h9 => h9) rfl dX10_layRows_66 ?_
            refine lv_iload hx hb dX10_layRows_69 (lv_at hl 1 rfl) ?_
            refine va_lald (D := D) hx hb hK hR 0 4 rfl rfl (vp_in_nI (n := i) (N := 40) (by omega) (by decide)) dX10_layRows_71 ?_
            rw [nI_clamp (n := i) (by omega)]
            refine q_cvl (show (fun k9 => lN (wd k9)) i = lN (wd i) from rfl) ?_
            refine lv_iload hx hb dX10_layRows_72 (lv_at hl 0 rfl) ?_
            refine vp_callSl (W.runS (As := [.long (lN (wd i)), .int (nI (q + 1))]) (rest := [.ref mo]) ⟨hx, hb, hml, hown, hts⟩ (c_X10_beginning (l := l) (D := D) (a := wd i) (k := q + 1) (ha := by omega) (hw := by omega) (hk := by omega)) (va_cwS 2 hts gX10_layRows_X10_beginning rfl rfl rfl (by decide +kernel) ⟨Nat.le_of_ble_eq_true rfl, Nat.le_of_ble_eq_true rfl⟩) ⟨qP_blind, (qP_of (q_Pof (fun _ h => absurd h List.not_mem_nil)) (hK.sub (tys' := []) [] rfl) hNw)⟩ rfl rfl hl.1 rfl (lv_room (Nat.le_of_ble_eq_true rfl)) dX10_layRows_74 ⟨Nat.le_of_ble_eq_true rfl, Nat.le_of_ble_eq_true rfl⟩) (fun r_12 hr_12 => ?_)
            subst hr_12
            refine lv_lload_n hx hb dX10_layRows_77 rfl (lv_at hl 4 rfl) ?_
            refine lv_iload_n hx hb dX10_layRows_78 rfl (lv_at hl 5 rfl) ?_
            have hF := va_free (wc := [(mo, .inr (9, [.int th, .int (nI n), .ref mw, .ref mct, .ref mp, .ref mnm, .ref m1, .ref m2, .int ob, .int tb, .ref mt, .ref mk, .ref mr, .ref ml, .ref mq])), (m1, .inl (k5, 11, .inl v1)), (m2, .inl (k6, 11, .inl v2)), (mt, .inl (k7, 121, .inl v3))]) hD hS hA [0, 1, 2, 3] rfl
            refine va_calll (va_runV (As := [.long (lN (beg (wd i) (q + 1))), .long (lN a), .int (nI k)]) (rest := []) ⟨hx, hb, hml, hown, hts⟩ (c_X10_rowOf (l := l) (D := D) (mo := mo) (mw := mw) (mct := mct) (mp := mp) (mnm := mnm) (m1 := m1) (m2 := m2) (mt := mt) (mk := mk) (mr := mr) (ml := ml) (mq := mq) (k5 := k5) (k6 := k6) (k7 := k7) (th := th) (n := n) (om := ob) (tm := tb) (f1 := v1) (f2 := v2) (ft := v3) (h := beg (wd i) (q + 1)) (a := a) (k := k) (sz := H.size) (hnd := (q_nds hnd [0, 1, 2, 3] rfl rfl)) (hwh := wl_10 (by have := beg_lt (n := wd i) (k := q + 1); omega)) (hlh := (by have := beg_lt (n := wd i) (k := q + 1); omega)) (hwa := hwa) (hla := by omega) (hk3 := hk3)) (cwV 3 hts gX10_layRows_X10_rowOf rfl rfl rfl (by decide +kernel) ⟨Nat.le_of_ble_eq_true rfl, Nat.le_of_ble_eq_true rfl⟩) ⟨qW_blind, (va_recv hK hP (ci := 9) (q0 := 0) rfl rfl), (qW_of (q_Pof (fun _ h => absurd h List.not_mem_nil)) (hP.sub (ws' := [(mo, .inr (9, [.int th, .int (nI n), .ref mw, .ref mct, .ref mp, .ref mnm, .ref m1, .ref m2, .int ob, .int tb, .ref mt, .ref mk, .ref mr, .ref ml, .ref mq])), (m1, .inl (k5, 11, .inl v1)), (m2, .inl (k6, 11, .inl v2)), (mt, .inl (k7, 121, .inl v3))]) [0, 1, 2, 3] rfl) (hK.sub (tys' := [(k5, .int), (k6, .int), (k7, .int)]) [0, 1, 2] rfl) hNw)⟩ rfl rfl hl.1 rfl (lv_room (Nat.le_of_ble_eq_true rfl)) dX10_layRows_79 ⟨Nat.le_of_ble_eq_true rfl, Nat.le_of_ble_eq_true rfl⟩) hS (fun q _ h => hF q h) hF (fun r_13 u_17 t_16 H_14 locs_15 ht hvm hr_13 hB hz1 hk1 hS => ?_)
            obtain ⟨g1_18, g2_19, g3_20⟩ := u_17
            dsimp only at hr_13 hB
            replace hB : va_P D vwCl [(mo, .inr (9, [.int th, .int (nI n), .ref mw, .ref mct, .ref mp, .ref mnm, .ref m1, .ref m2, .int (nI (wl (beg (wd i) (q + 1)))), .int (nI (wl a)), .ref mt, .ref mk, .ref mr, .ref ml, .ref mq])), (m1, .inl (k5, 11, .inl g1_18)), (m2, .inl (k6, 11, .inl g2_19)), (mt, .inl (k7, 121, .inl g3_20))] H_14 := by rw [← ht]; exact hB
            obtain ⟨hP, hD⟩ := q_join (wc := [(mo, .inr (9, [.int th, .int (nI n), .ref mw, .ref mct, .ref mp, .ref mnm, .ref m1, .ref m2, .int ob, .int tb, .ref mt, .ref mk, .ref mr, .ref ml, .ref mq])), (m1, .inl (k5, 11, .inl v1)), (m2, .inl (k6, 11, .inl v2)), (mt, .inl (k7, 121, .inl v3))]) (w1 := [(mo, .inr (9, [.int th, .int (nI n), .ref mw, .ref mct, .ref mp, .ref mnm, .ref m1, .ref m2, .int (nI (wl (beg (wd i) (q + 1)))), .int (nI (wl a)), .ref mt, .ref mk, .ref mr, .ref ml, .ref mq])), (m1, .inl (k5, 11, .inl g1_18)), (m2, .inl (k6, 11, .inl g2_19)), (mt, .inl (k7, 121, .inl g3_20))]) (ws' := [(mo, .inr (9, [.int th, .int (nI n), .ref mw, .ref mct, .ref mp, .ref mnm, .ref m1, .ref m2, .int (nI (wl (beg (wd i) (q + 1)))), .int (nI (wl a)), .ref mt, .ref mk, .ref mr, .ref ml, .ref mq])), (m1, .inl (k5, 11, .inl g1_18)), (m2, .inl (k6, 11, .inl g2_19)), (mt, .inl (k7, 121, .inl g3_20)), (mr, .inl (k9c, 401, .inr (.inl s2)))]) [0, 1, 2, 3] hP hD rfl rfl hk1 hB rfl
            have hR := q_ro hR0 hna hS
            subst hr_13
            refine lv_goto (tgt := 88) hx hb dX10_layRows_82 (by decide) ?_
            exact hcut_88 (rwo a k (beg (wd i) (q + 1)), nI (wl (beg (wd i) (q + 1))), nI (wl a), g1_18, g2_19, g3_20) _ _ _ _ ⟨(by rw [if_pos c_61]), hP, hD, hS, (lv_sub hl [0, 1, 2, 3, 4, 5] rfl), rfl⟩
  · intro hcut_31
    refine q_lr_lt (tgt := 31) hx hb dX10_layRows_16 (by decide) (fun c_16 => ?_) (fun c_16 => ?_)
    · skip
      rw [rwo_lt hwa hk3] at c_16
      have e9 : lrn wd ct a k 0 = [] := if_neg c_16
      exact hcut_31 (nI (wl 0), nI (wl a), g1_6, g2_7, g3_8, fr) _ _ _ _ ⟨(by rw [e9]; exact fun j hj => absurd hj (Nat.not_lt_zero _)), hP, hD, hS, (by rw [e9]; exact lv_sub hl [1, 2, 3, 4] rfl), rfl⟩
    · skip
      rw [rwo_lt hwa hk3, Decidable.not_not] at c_16
      have e16 : rwo a k 0 = lN (rown a k 0) := if_pos c_16
      have e9 : lrn wd ct a k 0 = [rown a k 0] := if_pos c_16
      refine lv_aload_n hx hb dX10_layRows_19 rfl (lv_at hl 2 rfl) ?_
      refine va_get (D := D) (own := RX10) (ref := "FuzzyFensModel") (ci := 9) (v := .ref mr) (C := RX10) (T := TX10) (N := 15) hx hb hts iX10_layRows_X10 hown hK hP 0 rfl rfl 12 (by decide) (hts (.fieldLink RX10 35 "FuzzyFensModel" "rows" "[J") (List.mem_of_getElem? (i := 1) rfl)) (fun _ h9 => h9) rfl dX10_layRows_20 ?_
      refine lv_iload hx hb dX10_layRows_23 (lv_at hl 1 rfl) ?_
      refine lv_lload hx hb dX10_layRows_25 (lv_at hl 0 rfl) ?_
      refine q_cvl (show (rwo a k 0) = (lN (rown a k 0)) from e16) ?_
      refine va_last (D := D) hx hb hK hP hD hS 4 3 rfl rfl (vp_in_nI (n := 0) (N := 401) (by omega) (by decide)) dX10_layRows_27 (fun H_21 locs_22 hP hD hS => ?_)
      rw [nI_clamp (n := 0) (by omega)] at hP hD
      have hP : va_P D vwCl [(mo, .inr (9, [.int th, .int (nI n), .ref mw, .ref mct, .ref mp, .ref mnm, .ref m1, .ref m2, .int (nI (wl 0)), .int (nI (wl a)), .ref mt, .ref mk, .ref mr, .ref ml, .ref mq])), (m1, .inl (k5, 11, .inl g1_6)), (m2, .inl (k6, 11, .inl g2_7)), (mt, .inl (k7, 121, .inl g3_8)), (mr, .inl (k9c, 401, .inr (.inl (vp_updL fr 0 (lN (rown a k 0))))))] H_21 := hP
      have hD : va_D A [(mo, .inr (9, [.int th, .int (nI n), .ref mw, .ref mct, .ref mp, .ref mnm, .ref m1, .ref m2, .int (nI (wl 0)), .int (nI (wl a)), .ref mt, .ref mk, .ref mr, .ref ml, .ref mq])), (m1, .inl (k5, 11, .inl g1_6)), (m2, .inl (k6, 11, .inl g2_7)), (mt, .inl (k7, 121, .inl g3_8)), (mr, .inl (k9c, 401, .inr (.inl (vp_updL fr 0 (lN (rown a k 0))))))] := hD
      have hR := q_ro hR0 hna hS
      refine lv_iinc (v := nI 1) (lv' := [(4, .int (nI 1)), (5, .long (rwo a k 0)), (0, .ref mo), (1, .long (lN a)), (3, .int (nI k))]) hx hb dX10_layRows_28 hl (k := 1) rfl (q_inc (k := 1) (by omega)) (by decide) rfl (fun ls hl => ?_)
      exact hcut_31 (nI (wl 0), nI (wl a), g1_6, g2_7, g3_8, vp_updL fr 0 (lN (rown a k 0))) _ _ _ _ ⟨(by rw [e9]; intro j hj; have ej : j = 0 := (by have h8 : j < 1 := hj; omega); rw [ej, pk_uLs]; rfl), hP, hD, hS, (by rw [e9]; exact lv_sub hl [0, 2, 3, 4] rfl), rfl⟩

set_option maxHeartbeats 4000000 in
set_option maxRecDepth 100000 in
/-- trieReached -/
theorem c_X10_trieReached (l : Launch) (D : va_G) (sz : Nat) (mo : Nat) (mw : Nat) (mct : Nat) (mp : Nat) (mnm : Nat) (m1 : Nat) (m2 : Nat) (mt : Nat) (mk : Nat) (mr : Nat) (ml : Nat) (mq : Nat) (k1 : ClassId) (k2 : ClassId) (k5 : ClassId) (k6 : ClassId) (k7 : ClassId) (k9c : ClassId) (th : Int32) (n : Nat) (om : Int32) (tm : Int32) (f1 : Nat → Int32) (f2 : Nat → Int32) (ft : Nat → Int32) (fr : Nat → Int64) (wd : Nat → Nat) (ct : Nat → Nat) (a : Nat) (x9 : Int32) (hnd : ([mo, m1, m2, mt, mr] ++ [mw, mct]).Nodup) (ha : a < 2 ^ 64) (hn40 : n ≤ 40) (hgw : ∀ k, k < n → gw (wd k)) (hcb : ∀ k, k < n → ct k < 2 ^ 31) : Met l yX10_trieReached wsX10_trieReached { frames := 5, cells := 0, slots := 0, locals := 136 } (va_Pc [.ref mo, .long (lN a), .int x9] (qW D sz ([(mw, .inl (k1, 40, .inr (.inl (fun k9 => lN (wd k9))))), (mct, .inl (k2, 40, .inl (fun k9 => nI (ct k9))))]) [(mo, .inr (9, [.int th, .int (nI n), .ref mw, .ref mct, .ref mp, .ref mnm, .ref m1, .ref m2, .int om, .int tm, .ref mt, .ref mk, .ref mr, .ref ml, .ref mq])), (m1, .inl (k5, 11, .inl f1)), (m2, .inl (k6, 11, .inl f2)), (mt, .inl (k7, 121, .inl ft)), (mr, .inl (k9c, 401, .inr (.inl fr)))] [(k5, .int), (k6, .int), (k7, .int), (k9c, .long), (k1, .long), (k2, .int)])) (va_Qi (fun (rv : Int32) (uv : (Int32) × (Int32) × (Int32) × (Nat → Int32) × (Nat → Int32) × (Nat → Int32) × (Nat → Int64)) => uv.1 = nI (if gw a ∧ 0 ≤ x9 ∧ x9 ≤ nI 3 then 0 else 1) ∧ (gw a ∧ 0 ≤ x9 ∧ x9 ≤ nI 3 → rv = nI (List.length (lrn wd ct a (kz x9) n)))) (fun (uv : (Int32) × (Int32) × (Int32) × (Nat → Int32) × (Nat → Int32) × (Nat → Int32) × (Nat → Int64)) (tv : State) => va_P D vwCl [(mo, .inr (9, [.int uv.1, .int (nI n), .ref mw, .ref mct, .ref mp, .ref mnm, .ref m1, .ref m2, .int uv.2.1, .int uv.2.2.1, .ref mt, .ref mk, .ref mr, .ref ml, .ref mq])), (m1, .inl (k5, 11, .inl uv.2.2.2.1)), (m2, .inl (k6, 11, .inl uv.2.2.2.2.1)), (mt, .inl (k7, 121, .inl uv.2.2.2.2.2.1)), (mr, .inl (k9c, 401, .inr (.inl uv.2.2.2.2.2.2)))] tv.heap) (va_A [(mo, .inr (9, [.int th, .int (nI n), .ref mw, .ref mct, .ref mp, .ref mnm, .ref m1, .ref m2, .int om, .int tm, .ref mt, .ref mk, .ref mr, .ref ml, .ref mq])), (m1, .inl (k5, 11, .inl f1)), (m2, .inl (k6, 11, .inl f2)), (mt, .inl (k7, 121, .inl ft)), (mr, .inl (k9c, 401, .inr (.inl fr)))] sz)) 0 0 (va_A [(mo, .inr (9, [.int th, .int (nI n), .ref mw, .ref mct, .ref mp, .ref mnm, .ref m1, .ref m2, .int om, .int tm, .ref mt, .ref mk, .ref mr, .ref ml, .ref mq])), (m1, .inl (k5, 11, .inl f1)), (m2, .inl (k6, 11, .inl f2)), (mt, .inl (k7, 121, .inl ft)), (mr, .inl (k9c, 401, .inr (.inl fr)))] sz) := by
  refine Met.ofW (cc := cX10_trieReached) (maxL := 4) (ret := (some .int)) (by decide) rfl ?_
  intro pM eM s mi9 argsM belowM methM cM sM B hml hv
  obtain ⟨rfl, hsz, hR0, hP, hK, hNw⟩ := hv
  have hx := B.exec
  have hb := B.bytes
  have hr := B.returns
  have hts := atoms_spec (ws := wsX10_trieReached) B.pre
  have hown : s.vm.findClass RX10 = some mi9.cls := findClass_of_methodNamed B.named
  have hlocks := B.notSynchronized
  subst hsz
  have hna := q_na (RW := [(mo, .inr (9, [.int th, .int (nI n), .ref mw, .ref mct, .ref mp, .ref mnm, .ref m1, .ref m2, .int om, .int tm, .ref mt, .ref mk, .ref mr, .ref ml, .ref mq])), (m1, .inl (k5, 11, .inl f1)), (m2, .inl (k6, 11, .inl f2)), (mt, .inl (k7, 121, .inl ft)), (mr, .inl (k9c, 401, .inr (.inl fr)))]) (RO := [(mw, .inl (k1, 40, .inr (.inl (fun k9 => lN (wd k9))))), (mct, .inl (k2, 40, .inl (fun k9 => nI (ct k9))))]) hnd rfl rfl hR0
  have hD := q_D (RW := [(mo, .inr (9, [.int th, .int (nI n), .ref mw, .ref mct, .ref mp, .ref mnm, .ref m1, .ref m2, .int om, .int tm, .ref mt, .ref mk, .ref mr, .ref ml, .ref mq])), (m1, .inl (k5, 11, .inl f1)), (m2, .inl (k6, 11, .inl f2)), (mt, .inl (k7, 121, .inl ft)), (mr, .inl (k9c, 401, .inr (.inl fr)))]) (sz := s.heap.size) hnd rfl
  have hA : ∀ q : Nat, s.heap.size ≤ q → va_A [(mo, .inr (9, [.int th, .int (nI n), .ref mw, .ref mct, .ref mp, .ref mnm, .ref m1, .ref m2, .int om, .int tm, .ref mt, .ref mk, .ref mr, .ref ml, .ref mq])), (m1, .inl (k5, 11, .inl f1)), (m2, .inl (k6, 11, .inl f2)), (mt, .inl (k7, 121, .inl ft)), (mr, .inl (k9c, 401, .inr (.inl fr)))] s.heap.size q := fun q h => Or.inr h
  generalize hAe : va_A [(mo, .inr (9, [.int th, .int (nI n), .ref mw, .ref mct, .ref mp, .ref mnm, .ref m1, .ref m2, .int om, .int tm, .ref mt, .ref mk, .ref mr, .ref ml, .ref mq])), (m1, .inl (k5, 11, .inl f1)), (m2, .inl (k6, 11, .inl f2)), (mt, .inl (k7, 121, .inl ft)), (mr, .inl (k9c, 401, .inr (.inl fr)))] s.heap.size = A at hna hD hA ⊢
  have hS : va_S A s.heap s.heap [] := va_S.rf
  have hR := hR0
  have hP : va_P D vwCl [(mo, .inr (9, [.int th, .int (nI n), .ref mw, .ref mct, .ref mp, .ref mnm, .ref m1, .ref m2, .int om, .int tm, .ref mt, .ref mk, .ref mr, .ref ml, .ref mq])), (m1, .inl (k5, 11, .inl f1)), (m2, .inl (k6, 11, .inl f2)), (mt, .inl (k7, 121, .inl ft)), (mr, .inl (k9c, 401, .inr (.inl fr)))] s.heap := hP
  have hl := lv_entry ([.ref mo, .long (lN a), .int x9]) (n := 4) (Nat.le_of_ble_eq_true rfl)
  rw [lg_entry_eq]
  generalize (lg_sl ([.ref mo, .long (lN a), .int x9]) ++ List.replicate (4 - (lg_sl ([.ref mo, .long (lN a), .int x9])).length) Slot.unset).toArray = ls at hl ⊢
  have hl : lv_has ls 4 [(0, .ref mo), (1, .long (lN a)), (3, .int x9)] := hl
  refine lv_aload_n hx hb dX10_trieReached_0 rfl (lv_at hl 0 rfl) ?_
  refine lv_lload_n hx hb dX10_trieReached_1 rfl (lv_at hl 1 rfl) ?_
  refine lv_iload_n hx hb dX10_trieReached_2 rfl (lv_at hl 2 rfl) ?_
  refine lv_iconst (v := nI 3) hx hb dX10_trieReached_3 (by decide) ?_
  refine vp_callSi (W.runS (As := [.long (lN a), .int x9, .int (nI 3)]) (rest := [.ref mo]) ⟨hx, hb, hml, hown, hts⟩ (c_X10_isSearch (l := l) (D := D) (a := a) (x9 := x9) (mm := 3) (ha := ha)) (va_cwS 3 hts gX10_trieReached_X10_isSearch rfl rfl rfl (by decide +kernel) ⟨Nat.le_of_ble_eq_true rfl, Nat.le_of_ble_eq_true rfl⟩) ⟨qP_blind, (qP_of (q_Pof (fun _ h => absurd h List.not_mem_nil)) (hK.sub (tys' := []) [] rfl) hNw)⟩ rfl rfl hl.1 rfl (lv_room (Nat.le_of_ble_eq_true rfl)) dX10_trieReached_4 ⟨Nat.le_of_ble_eq_true rfl, Nat.le_of_ble_eq_true rfl⟩) (fun r_1 hr_1 => ?_)
  subst hr_1
  refine q_ifb_eq (tgt := 14) hx hb dX10_trieReached_7 (by decide) (fun c_7 => ?_) (fun c_7 => ?_)
  · skip
    refine lv_iconst (v := nI 1) hx hb dX10_trieReached_14 (by decide) ?_
    have hF := va_free (wc := [(mo, .inr (9, [.int th, .int (nI n), .ref mw, .ref mct, .ref mp, .ref mnm, .ref m1, .ref m2, .int om, .int tm, .ref mt, .ref mk, .ref mr, .ref ml, .ref mq]))]) hD hS hA [0] rfl
    refine va_calli (va_runV (As := [.int (nI 1)]) (rest := []) ⟨hx, hb, hml, hown, hts⟩ (c_X10_goesWell (l := l) (D := D) (mo := mo) (mw := mw) (mct := mct) (mp := mp) (mnm := mnm) (m1 := m1) (m2 := m2) (mt := mt) (mk := mk) (mr := mr) (ml := ml) (mq := mq) (th := th) (n := n) (om := om) (tm := tm) (x9 := 1) (sz := s.heap.size) (hnd := (q_nds hnd [0] rfl rfl)) (hx9 := by omega)) (cwV 1 hts gX10_trieReached_X10_goesWell rfl rfl rfl (by decide +kernel) ⟨Nat.le_of_ble_eq_true rfl, Nat.le_of_ble_eq_true rfl⟩) ⟨qW_blind, (va_recv hK hP (ci := 9) (q0 := 0) rfl rfl), (qW_of (q_Pof (fun _ h => absurd h List.not_mem_nil)) (hP.sub (ws' := [(mo, .inr (9, [.int th, .int (nI n), .ref mw, .ref mct, .ref mp, .ref mnm, .ref m1, .ref m2, .int om, .int tm, .ref mt, .ref mk, .ref mr, .ref ml, .ref mq]))]) [0] rfl) (hK.sub (tys' := []) [] rfl) hNw)⟩ rfl rfl hl.1 rfl (lv_room (Nat.le_of_ble_eq_true rfl)) dX10_trieReached_15 ⟨Nat.le_of_ble_eq_true rfl, Nat.le_of_ble_eq_true rfl⟩) hS (fun q _ h => hF q h) hF (fun r_2 u_6 t_5 H_3 locs_4 ht hvm hr_2 hB hz1 hk1 hS => ?_)
    replace hB : va_P D vwCl [(mo, .inr (9, [.int (nI 1), .int (nI n), .ref mw, .ref mct, .ref mp, .ref mnm, .ref m1, .ref m2, .int om, .int tm, .ref mt, .ref mk, .ref mr, .ref ml, .ref mq]))] H_3 := by rw [← ht]; exact hB
    obtain ⟨hP, hD⟩ := q_join (wc := [(mo, .inr (9, [.int th, .int (nI n), .ref mw, .ref mct, .ref mp, .ref mnm, .ref m1, .ref m2, .int om, .int tm, .ref mt, .ref mk, .ref mr, .ref ml, .ref mq]))]) (w1 := [(mo, .inr (9, [.int (nI 1), .int (nI n), .ref mw, .ref mct, .ref mp, .ref mnm, .ref m1, .ref m2, .int om, .int tm, .ref mt, .ref mk, .ref mr, .ref ml, .ref mq]))]) (ws' := [(mo, .inr (9, [.int (nI 1), .int (nI n), .ref mw, .ref mct, .ref mp, .ref mnm, .ref m1, .ref m2, .int om, .int tm, .ref mt, .ref mk, .ref mr, .ref ml, .ref mq])), (m1, .inl (k5, 11, .inl f1)), (m2, .inl (k6, 11, .inl f2)), (mt, .inl (k7, 121, .inl ft)), (mr, .inl (k9c, 401, .inr (.inl fr)))]) [0] hP hD rfl rfl hk1 hB rfl
    have hR := q_ro hR0 hna hS
    subst hr_2
    refine q_ifb_eq (tgt := 30) hx hb dX10_trieReached_18 (by decide) (fun _ => ?_) (fun c9 => absurd c9 (by decide))
    refine lv_iconst (v := nI 0) hx hb dX10_trieReached_30 (by decide) ?_
    exact W.iret (v := nI 0) hx hb hr (fun t9 ht hW => ⟨⟨nI 0, (nI 1, om, tm, f1, f2, ft, fr), rfl, ⟨(by rw [if_neg c_7]), (fun h9 => absurd h9 c_7)⟩, by show va_P D vwCl _ t9.heap; rw [ht]; exact hP⟩, hS.F ht⟩) hS.2.2 dX10_trieReached_31
  · skip
    refine lv_iconst (v := nI 0) hx hb dX10_trieReached_10 (by decide) ?_
    refine lv_goto (tgt := 15) hx hb dX10_trieReached_11 (by decide) ?_
    have hF := va_free (wc := [(mo, .inr (9, [.int th, .int (nI n), .ref mw, .ref mct, .ref mp, .ref mnm, .ref m1, .ref m2, .int om, .int tm, .ref mt, .ref mk, .ref mr, .ref ml, .ref mq]))]) hD hS hA [0] rfl
    refine va_calli (va_runV (As := [.int (nI 0)]) (rest := []) ⟨hx, hb, hml, hown, hts⟩ (c_X10_goesWell (l := l) (D := D) (mo := mo) (mw := mw) (mct := mct) (mp := mp) (mnm := mnm) (m1 := m1) (m2 := m2) (mt := mt) (mk := mk) (mr := mr) (ml := ml) (mq := mq) (th := th) (n := n) (om := om) (tm := tm) (x9 := 0) (sz := s.heap.size) (hnd := (q_nds hnd [0] rfl rfl)) (hx9 := by omega)) (cwV 1 hts gX10_trieReached_X10_goesWell rfl rfl rfl (by decide +kernel) ⟨Nat.le_of_ble_eq_true rfl, Nat.le_of_ble_eq_true rfl⟩) ⟨qW_blind, (va_recv hK hP (ci := 9) (q0 := 0) rfl rfl), (qW_of (q_Pof (fun _ h => absurd h List.not_mem_nil)) (hP.sub (ws' := [(mo, .inr (9, [.int th, .int (nI n), .ref mw, .ref mct, .ref mp, .ref mnm, .ref m1, .ref m2, .int om, .int tm, .ref mt, .ref mk, .ref mr, .ref ml, .ref mq]))]) [0] rfl) (hK.sub (tys' := []) [] rfl) hNw)⟩ rfl rfl hl.1 rfl (lv_room (Nat.le_of_ble_eq_true rfl)) dX10_trieReached_15 ⟨Nat.le_of_ble_eq_true rfl, Nat.le_of_ble_eq_true rfl⟩) hS (fun q _ h => hF q h) hF (fun r_7 u_11 t_10 H_8 locs_9 ht hvm hr_7 hB hz1 hk1 hS => ?_)
    replace hB : va_P D vwCl [(mo, .inr (9, [.int (nI 0), .int (nI n), .ref mw, .ref mct, .ref mp, .ref mnm, .ref m1, .ref m2, .int om, .int tm, .ref mt, .ref mk, .ref mr, .ref ml, .ref mq]))] H_8 := by rw [← ht]; exact hB
    obtain ⟨hP, hD⟩ := q_join (wc := [(mo, .inr (9, [.int th, .int (nI n), .ref mw, .ref mct, .ref mp, .ref mnm, .ref m1, .ref m2, .int om, .int tm, .ref mt, .ref mk, .ref mr, .ref ml, .ref mq]))]) (w1 := [(mo, .inr (9, [.int (nI 0), .int (nI n), .ref mw, .ref mct, .ref mp, .ref mnm, .ref m1, .ref m2, .int om, .int tm, .ref mt, .ref mk, .ref mr, .ref ml, .ref mq]))]) (ws' := [(mo, .inr (9, [.int (nI 0), .int (nI n), .ref mw, .ref mct, .ref mp, .ref mnm, .ref m1, .ref m2, .int om, .int tm, .ref mt, .ref mk, .ref mr, .ref ml, .ref mq])), (m1, .inl (k5, 11, .inl f1)), (m2, .inl (k6, 11, .inl f2)), (mt, .inl (k7, 121, .inl ft)), (mr, .inl (k9c, 401, .inr (.inl fr)))]) [0] hP hD rfl rfl hk1 hB rfl
    have hR := q_ro hR0 hna hS
    subst hr_7
    refine q_ifb_eq (tgt := 30) hx hb dX10_trieReached_18 (by decide) (fun c9 => absurd (by decide) c9) (fun _ => ?_)
    have hlx := kz_le (by decide) c_7.2.1 c_7.2.2
    have hl : lv_has ls 4 [(0, .ref mo), (1, .long (lN a)), (3, .int (nI (kz x9)))] := (congrArg (fun v9 => lv_has ls 4 [(0, .ref mo), (1, .long (lN a)), (3, .int v9)]) (kz_of c_7.2.1)).mp hl
    refine lv_aload_n hx hb dX10_trieReached_21 rfl (lv_at hl 0 rfl) ?_
    refine lv_lload_n hx hb dX10_trieReached_22 rfl (lv_at hl 1 rfl) ?_
    refine lv_iload_n hx hb dX10_trieReached_23 rfl (lv_at hl 2 rfl) ?_
    have hF := va_free (wc := [(mo, .inr (9, [.int (nI 0), .int (nI n), .ref mw, .ref mct, .ref mp, .ref mnm, .ref m1, .ref m2, .int om, .int tm, .ref mt, .ref mk, .ref mr, .ref ml, .ref mq])), (m1, .inl (k5, 11, .inl f1)), (m2, .inl (k6, 11, .inl f2)), (mt, .inl (k7, 121, .inl ft)), (mr, .inl (k9c, 401, .inr (.inl fr)))]) hD hS hA [0, 1, 2, 3, 4] rfl
    refine va_calli (va_runV (As := [.long (lN a), .int (nI (kz x9))]) (rest := []) ⟨hx, hb, hml, hown, hts⟩ (c_X10_layRows (l := l) (D := D) (mo := mo) (mw := mw) (mct := mct) (mp := mp) (mnm := mnm) (m1 := m1) (m2 := m2) (mt := mt) (mk := mk) (mr := mr) (ml := ml) (mq := mq) (k1 := k1) (k2 := k2) (k5 := k5) (k6 := k6) (k7 := k7) (k9c := k9c) (th := nI 0) (n := n) (om := om) (tm := tm) (f1 := f1) (f2 := f2) (ft := ft) (fr := fr) (wd := wd) (ct := ct) (a := a) (k := kz x9) (sz := H_8.size) (hnd := (q_nds hnd [0, 1, 2, 3, 4, 5, 6] rfl rfl)) (hga := c_7.1) (hn40 := hn40) (hgw := by omega) (hcb := by omega) (hk3 := by omega)) (cwV 2 hts gX10_trieReached_X10_layRows rfl rfl rfl (by decide +kernel) ⟨Nat.le_of_ble_eq_true rfl, Nat.le_of_ble_eq_true rfl⟩) ⟨qW_blind, (va_recv hK hP (ci := 9) (q0 := 0) rfl rfl), (qW_of (hR.sub (ws' := [(mw, .inl (k1, 40, .inr (.inl (fun k9 => lN (wd k9))))), (mct, .inl (k2, 40, .inl (fun k9 => nI (ct k9))))]) [0, 1] rfl) (hP.sub (ws' := [(mo, .inr (9, [.int (nI 0), .int (nI n), .ref mw, .ref mct, .ref mp, .ref mnm, .ref m1, .ref m2, .int om, .int tm, .ref mt, .ref mk, .ref mr, .ref ml, .ref mq])), (m1, .inl (k5, 11, .inl f1)), (m2, .inl (k6, 11, .inl f2)), (mt, .inl (k7, 121, .inl ft)), (mr, .inl (k9c, 401, .inr (.inl fr)))]) [0, 1, 2, 3, 4] rfl) (hK.sub (tys' := [(k5, .int), (k6, .int), (k7, .int), (k9c, .long), (k1, .long), (k2, .int)]) [0, 1, 2, 3, 4, 5] rfl) hNw)⟩ rfl rfl hl.1 rfl (lv_room (Nat.le_of_ble_eq_true rfl)) dX10_trieReached_24 ⟨Nat.le_of_ble_eq_true rfl, Nat.le_of_ble_eq_true rfl⟩) hS (fun q _ h => hF q h) hF (fun r_12 u_16 t_15 H_13 locs_14 ht hvm hr_12 hB hz1 hk1 hS => ?_)
    obtain ⟨o2_17, q2_18, g1_19, g2_20, g3_21, g4_22⟩ := u_16
    dsimp only at hr_12 hB
    replace hB : va_P D vwCl [(mo, .inr (9, [.int (nI 0), .int (nI n), .ref mw, .ref mct, .ref mp, .ref mnm, .ref m1, .ref m2, .int o2_17, .int q2_18, .ref mt, .ref mk, .ref mr, .ref ml, .ref mq])), (m1, .inl (k5, 11, .inl g1_19)), (m2, .inl (k6, 11, .inl g2_20)), (mt, .inl (k7, 121, .inl g3_21)), (mr, .inl (k9c, 401, .inr (.inl g4_22)))] H_13 := by rw [← ht]; exact hB
    obtain ⟨hP, hD⟩ := q_join (wc := [(mo, .inr (9, [.int (nI 0), .int (nI n), .ref mw, .ref mct, .ref mp, .ref mnm, .ref m1, .ref m2, .int om, .int tm, .ref mt, .ref mk, .ref mr, .ref ml, .ref mq])), (m1, .inl (k5, 11, .inl f1)), (m2, .inl (k6, 11, .inl f2)), (mt, .inl (k7, 121, .inl ft)), (mr, .inl (k9c, 401, .inr (.inl fr)))]) (w1 := [(mo, .inr (9, [.int (nI 0), .int (nI n), .ref mw, .ref mct, .ref mp, .ref mnm, .ref m1, .ref m2, .int o2_17, .int q2_18, .ref mt, .ref mk, .ref mr, .ref ml, .ref mq])), (m1, .inl (k5, 11, .inl g1_19)), (m2, .inl (k6, 11, .inl g2_20)), (mt, .inl (k7, 121, .inl g3_21)), (mr, .inl (k9c, 401, .inr (.inl g4_22)))]) (ws' := [(mo, .inr (9, [.int (nI 0), .int (nI n), .ref mw, .ref mct, .ref mp, .ref mnm, .ref m1, .ref m2, .int o2_17, .int q2_18, .ref mt, .ref mk, .ref mr, .ref ml, .ref mq])), (m1, .inl (k5, 11, .inl g1_19)), (m2, .inl (k6, 11, .inl g2_20)), (mt, .inl (k7, 121, .inl g3_21)), (mr, .inl (k9c, 401, .inr (.inl g4_22)))]) [0, 1, 2, 3, 4] hP hD rfl rfl hk1 hB rfl
    have hR := q_ro hR0 hna hS
    obtain ⟨rfl, f_r_12⟩ := hr_12
    refine lv_goto (tgt := 31) hx hb dX10_trieReached_27 (by decide) ?_
    exact W.iret (v := nI (List.length (lrn wd ct a (kz x9) n))) hx hb hr (fun t9 ht hW => ⟨⟨nI (List.length (lrn wd ct a (kz x9) n)), (nI 0, o2_17, q2_18, g1_19, g2_20, g3_21, g4_22), rfl, ⟨(by rw [if_pos c_7]), (fun _ => rfl)⟩, by show va_P D vwCl _ t9.heap; rw [ht]; exact hP⟩, hS.F ht⟩) hS.2.2 dX10_trieReached_31

set_option maxRecDepth 20000 in
theorem iX10_rows_X10 : ∀ w ∈ wsX100, w ∈ wsX10_rows := by decide +kernel
set_option maxHeartbeats 4000000 in
set_option maxRecDepth 100000 in
/-- rows -/
theorem c_X10_rows (l : Launch) (D : va_G) (sz : Nat) (mo : Nat) (mw : Nat) (mct : Nat) (mp : Nat) (mnm : Nat) (m1 : Nat) (m2 : Nat) (mt : Nat) (mk : Nat) (mr : Nat) (ml : Nat) (mq : Nat) (k1 : ClassId) (k2 : ClassId) (k5 : ClassId) (k6 : ClassId) (k7 : ClassId) (k9c : ClassId) (th : Int32) (n : Nat) (om : Int32) (tm : Int32) (f1 : Nat → Int32) (f2 : Nat → Int32) (ft : Nat → Int32) (fr : Nat → Int64) (wd : Nat → Nat) (ct : Nat → Nat) (a : Nat) (x9 : Int32) (hnd : ([mo, m1, m2, mt, mr] ++ [mw, mct]).Nodup) (ha : a < 2 ^ 64) (hn40 : n ≤ 40) (hgw : ∀ k, k < n → gw (wd k)) (hcb : ∀ k, k < n → ct k < 2 ^ 31) : Met l yX10_rows wsX10_rows { frames := 5, cells := 0, slots := 0, locals := 136 } (va_Pc [.ref mo, .long (lN a), .int x9] (qW D sz ([(mw, .inl (k1, 40, .inr (.inl (fun k9 => lN (wd k9))))), (mct, .inl (k2, 40, .inl (fun k9 => nI (ct k9))))]) [(mo, .inr (9, [.int th, .int (nI n), .ref mw, .ref mct, .ref mp, .ref mnm, .ref m1, .ref m2, .int om, .int tm, .ref mt, .ref mk, .ref mr, .ref ml, .ref mq])), (m1, .inl (k5, 11, .inl f1)), (m2, .inl (k6, 11, .inl f2)), (mt, .inl (k7, 121, .inl ft)), (mr, .inl (k9c, 401, .inr (.inl fr)))] [(k5, .int), (k6, .int), (k7, .int), (k9c, .long), (k1, .long), (k2, .int)])) (va_Qi (fun (rv : Int32) (uv : (Int32) × (Int32) × (Int32) × (Nat → Int32) × (Nat → Int32) × (Nat → Int32) × (Nat → Int64)) => uv.1 = nI (if gw a ∧ 0 ≤ x9 ∧ x9 ≤ nI 3 then 0 else 1) ∧ (gw a ∧ 0 ≤ x9 ∧ x9 ≤ nI 3 → rv = nI (dcl (lrn wd ct a (kz x9) n) (List.length (lrn wd ct a (kz x9) n))))) (fun (uv : (Int32) × (Int32) × (Int32) × (Nat → Int32) × (Nat → Int32) × (Nat → Int32) × (Nat → Int64)) (tv : State) => va_P D vwCl [(mo, .inr (9, [.int uv.1, .int (nI n), .ref mw, .ref mct, .ref mp, .ref mnm, .ref m1, .ref m2, .int uv.2.1, .int uv.2.2.1, .ref mt, .ref mk, .ref mr, .ref ml, .ref mq])), (m1, .inl (k5, 11, .inl uv.2.2.2.1)), (m2, .inl (k6, 11, .inl uv.2.2.2.2.1)), (mt, .inl (k7, 121, .inl uv.2.2.2.2.2.1)), (mr, .inl (k9c, 401, .inr (.inl uv.2.2.2.2.2.2)))] tv.heap) (va_A [(mo, .inr (9, [.int th, .int (nI n), .ref mw, .ref mct, .ref mp, .ref mnm, .ref m1, .ref m2, .int om, .int tm, .ref mt, .ref mk, .ref mr, .ref ml, .ref mq])), (m1, .inl (k5, 11, .inl f1)), (m2, .inl (k6, 11, .inl f2)), (mt, .inl (k7, 121, .inl ft)), (mr, .inl (k9c, 401, .inr (.inl fr)))] sz)) 0 0 (va_A [(mo, .inr (9, [.int th, .int (nI n), .ref mw, .ref mct, .ref mp, .ref mnm, .ref m1, .ref m2, .int om, .int tm, .ref mt, .ref mk, .ref mr, .ref ml, .ref mq])), (m1, .inl (k5, 11, .inl f1)), (m2, .inl (k6, 11, .inl f2)), (mt, .inl (k7, 121, .inl ft)), (mr, .inl (k9c, 401, .inr (.inl fr)))] sz) := by
  refine Met.ofW (cc := cX10_rows) (maxL := 9) (ret := (some .int)) (by decide) rfl ?_
  intro pM eM s mi9 argsM belowM methM cM sM B hml hv
  obtain ⟨rfl, hsz, hR0, hP, hK, hNw⟩ := hv
  have hx := B.exec
  have hb := B.bytes
  have hr := B.returns
  have hts := atoms_spec (ws := wsX10_rows) B.pre
  have hown : s.vm.findClass RX10 = some mi9.cls := findClass_of_methodNamed B.named
  have hlocks := B.notSynchronized
  subst hsz
  have hna := q_na (RW := [(mo, .inr (9, [.int th, .int (nI n), .ref mw, .ref mct, .ref mp, .ref mnm, .ref m1, .ref m2, .int om, .int tm, .ref mt, .ref mk, .ref mr, .ref ml, .ref mq])), (m1, .inl (k5, 11, .inl f1)), (m2, .inl (k6, 11, .inl f2)), (mt, .inl (k7, 121, .inl ft)), (mr, .inl (k9c, 401, .inr (.inl fr)))]) (RO := [(mw, .inl (k1, 40, .inr (.inl (fun k9 => lN (wd k9))))), (mct, .inl (k2, 40, .inl (fun k9 => nI (ct k9))))]) hnd rfl rfl hR0
  have hD := q_D (RW := [(mo, .inr (9, [.int th, .int (nI n), .ref mw, .ref mct, .ref mp, .ref mnm, .ref m1, .ref m2, .int om, .int tm, .ref mt, .ref mk, .ref mr, .ref ml, .ref mq])), (m1, .inl (k5, 11, .inl f1)), (m2, .inl (k6, 11, .inl f2)), (mt, .inl (k7, 121, .inl ft)), (mr, .inl (k9c, 401, .inr (.inl fr)))]) (sz := s.heap.size) hnd rfl
  have hA : ∀ q : Nat, s.heap.size ≤ q → va_A [(mo, .inr (9, [.int th, .int (nI n), .ref mw, .ref mct, .ref mp, .ref mnm, .ref m1, .ref m2, .int om, .int tm, .ref mt, .ref mk, .ref mr, .ref ml, .ref mq])), (m1, .inl (k5, 11, .inl f1)), (m2, .inl (k6, 11, .inl f2)), (mt, .inl (k7, 121, .inl ft)), (mr, .inl (k9c, 401, .inr (.inl fr)))] s.heap.size q := fun q h => Or.inr h
  generalize hAe : va_A [(mo, .inr (9, [.int th, .int (nI n), .ref mw, .ref mct, .ref mp, .ref mnm, .ref m1, .ref m2, .int om, .int tm, .ref mt, .ref mk, .ref mr, .ref ml, .ref mq])), (m1, .inl (k5, 11, .inl f1)), (m2, .inl (k6, 11, .inl f2)), (mt, .inl (k7, 121, .inl ft)), (mr, .inl (k9c, 401, .inr (.inl fr)))] s.heap.size = A at hna hD hA ⊢
  have hS : va_S A s.heap s.heap [] := va_S.rf
  have hR := hR0
  have hP : va_P D vwCl [(mo, .inr (9, [.int th, .int (nI n), .ref mw, .ref mct, .ref mp, .ref mnm, .ref m1, .ref m2, .int om, .int tm, .ref mt, .ref mk, .ref mr, .ref ml, .ref mq])), (m1, .inl (k5, 11, .inl f1)), (m2, .inl (k6, 11, .inl f2)), (mt, .inl (k7, 121, .inl ft)), (mr, .inl (k9c, 401, .inr (.inl fr)))] s.heap := hP
  have hl := lv_entry ([.ref mo, .long (lN a), .int x9]) (n := 9) (Nat.le_of_ble_eq_true rfl)
  rw [lg_entry_eq]
  generalize (lg_sl ([.ref mo, .long (lN a), .int x9]) ++ List.replicate (9 - (lg_sl ([.ref mo, .long (lN a), .int x9])).length) Slot.unset).toArray = ls at hl ⊢
  have hl : lv_has ls 9 [(0, .ref mo), (1, .long (lN a)), (3, .int x9)] := hl
  refine lv_aload_n hx hb dX10_rows_0 rfl (lv_at hl 0 rfl) ?_
  refine lv_lload_n hx hb dX10_rows_1 rfl (lv_at hl 1 rfl) ?_
  refine lv_iload_n hx hb dX10_rows_2 rfl (lv_at hl 2 rfl) ?_
  refine lv_iconst (v := nI 3) hx hb dX10_rows_3 (by decide) ?_
  refine vp_callSi (W.runS (As := [.long (lN a), .int x9, .int (nI 3)]) (rest := [.ref mo]) ⟨hx, hb, hml, hown, hts⟩ (c_X10_isSearch (l := l) (D := D) (a := a) (x9 := x9) (mm := 3) (ha := ha)) (va_cwS 3 hts gX10_rows_X10_isSearch rfl rfl rfl (by decide +kernel) ⟨Nat.le_of_ble_eq_true rfl, Nat.le_of_ble_eq_true rfl⟩) ⟨qP_blind, (qP_of (q_Pof (fun _ h => absurd h List.not_mem_nil)) (hK.sub (tys' := []) [] rfl) hNw)⟩ rfl rfl hl.1 rfl (lv_room (Nat.le_of_ble_eq_true rfl)) dX10_rows_4 ⟨Nat.le_of_ble_eq_true rfl, Nat.le_of_ble_eq_true rfl⟩) (fun r_1 hr_1 => ?_)
  subst hr_1
  refine q_ifb_eq (tgt := 14) hx hb dX10_rows_7 (by decide) (fun c_7 => ?_) (fun c_7 => ?_)
  · skip
    refine lv_iconst (v := nI 1) hx hb dX10_rows_14 (by decide) ?_
    have hF := va_free (wc := [(mo, .inr (9, [.int th, .int (nI n), .ref mw, .ref mct, .ref mp, .ref mnm, .ref m1, .ref m2, .int om, .int tm, .ref mt, .ref mk, .ref mr, .ref ml, .ref mq]))]) hD hS hA [0] rfl
    refine va_calli (va_runV (As := [.int (nI 1)]) (rest := []) ⟨hx, hb, hml, hown, hts⟩ (c_X10_goesWell (l := l) (D := D) (mo := mo) (mw := mw) (mct := mct) (mp := mp) (mnm := mnm) (m1 := m1) (m2 := m2) (mt := mt) (mk := mk) (mr := mr) (ml := ml) (mq := mq) (th := th) (n := n) (om := om) (tm := tm) (x9 := 1) (sz := s.heap.size) (hnd := (q_nds hnd [0] rfl rfl)) (hx9 := by omega)) (cwV 1 hts gX10_rows_X10_goesWell rfl rfl rfl (by decide +kernel) ⟨Nat.le_of_ble_eq_true rfl, Nat.le_of_ble_eq_true rfl⟩) ⟨qW_blind, (va_recv hK hP (ci := 9) (q0 := 0) rfl rfl), (qW_of (q_Pof (fun _ h => absurd h List.not_mem_nil)) (hP.sub (ws' := [(mo, .inr (9, [.int th, .int (nI n), .ref mw, .ref mct, .ref mp, .ref mnm, .ref m1, .ref m2, .int om, .int tm, .ref mt, .ref mk, .ref mr, .ref ml, .ref mq]))]) [0] rfl) (hK.sub (tys' := []) [] rfl) hNw)⟩ rfl rfl hl.1 rfl (lv_room (Nat.le_of_ble_eq_true rfl)) dX10_rows_15 ⟨Nat.le_of_ble_eq_true rfl, Nat.le_of_ble_eq_true rfl⟩) hS (fun q _ h => hF q h) hF (fun r_2 u_6 t_5 H_3 locs_4 ht hvm hr_2 hB hz1 hk1 hS => ?_)
    replace hB : va_P D vwCl [(mo, .inr (9, [.int (nI 1), .int (nI n), .ref mw, .ref mct, .ref mp, .ref mnm, .ref m1, .ref m2, .int om, .int tm, .ref mt, .ref mk, .ref mr, .ref ml, .ref mq]))] H_3 := by rw [← ht]; exact hB
    obtain ⟨hP, hD⟩ := q_join (wc := [(mo, .inr (9, [.int th, .int (nI n), .ref mw, .ref mct, .ref mp, .ref mnm, .ref m1, .ref m2, .int om, .int tm, .ref mt, .ref mk, .ref mr, .ref ml, .ref mq]))]) (w1 := [(mo, .inr (9, [.int (nI 1), .int (nI n), .ref mw, .ref mct, .ref mp, .ref mnm, .ref m1, .ref m2, .int om, .int tm, .ref mt, .ref mk, .ref mr, .ref ml, .ref mq]))]) (ws' := [(mo, .inr (9, [.int (nI 1), .int (nI n), .ref mw, .ref mct, .ref mp, .ref mnm, .ref m1, .ref m2, .int om, .int tm, .ref mt, .ref mk, .ref mr, .ref ml, .ref mq])), (m1, .inl (k5, 11, .inl f1)), (m2, .inl (k6, 11, .inl f2)), (mt, .inl (k7, 121, .inl ft)), (mr, .inl (k9c, 401, .inr (.inl fr)))]) [0] hP hD rfl rfl hk1 hB rfl
    have hR := q_ro hR0 hna hS
    subst hr_2
    refine q_ifb_ne (tgt := 23) hx hb dX10_rows_18 (by decide) (fun c9 => absurd c9 (by decide)) (fun _ => ?_)
    refine lv_iconst (v := nI 0) hx hb dX10_rows_21 (by decide) ?_
    exact W.iret (v := nI 0) hx hb hr (fun t9 ht hW => ⟨⟨nI 0, (nI 1, om, tm, f1, f2, ft, fr), rfl, ⟨(by rw [if_neg c_7]), (fun h9 => absurd h9 c_7)⟩, by show va_P D vwCl _ t9.heap; rw [ht]; exact hP⟩, hS.F ht⟩) hS.2.2 dX10_rows_22
  · skip
    refine lv_iconst (v := nI 0) hx hb dX10_rows_10 (by decide) ?_
    refine lv_goto (tgt := 15) hx hb dX10_rows_11 (by decide) ?_
    have hF := va_free (wc := [(mo, .inr (9, [.int th, .int (nI n), .ref mw, .ref mct, .ref mp, .ref mnm, .ref m1, .ref m2, .int om, .int tm, .ref mt, .ref mk, .ref mr, .ref ml, .ref mq]))]) hD hS hA [0] rfl
    refine va_calli (va_runV (As := [.int (nI 0)]) (rest := []) ⟨hx, hb, hml, hown, hts⟩ (c_X10_goesWell (l := l) (D := D) (mo := mo) (mw := mw) (mct := mct) (mp := mp) (mnm := mnm) (m1 := m1) (m2 := m2) (mt := mt) (mk := mk) (mr := mr) (ml := ml) (mq := mq) (th := th) (n := n) (om := om) (tm := tm) (x9 := 0) (sz := s.heap.size) (hnd := (q_nds hnd [0] rfl rfl)) (hx9 := by omega)) (cwV 1 hts gX10_rows_X10_goesWell rfl rfl rfl (by decide +kernel) ⟨Nat.le_of_ble_eq_true rfl, Nat.le_of_ble_eq_true rfl⟩) ⟨qW_blind, (va_recv hK hP (ci := 9) (q0 := 0) rfl rfl), (qW_of (q_Pof (fun _ h => absurd h List.not_mem_nil)) (hP.sub (ws' := [(mo, .inr (9, [.int th, .int (nI n), .ref mw, .ref mct, .ref mp, .ref mnm, .ref m1, .ref m2, .int om, .int tm, .ref mt, .ref mk, .ref mr, .ref ml, .ref mq]))]) [0] rfl) (hK.sub (tys' := []) [] rfl) hNw)⟩ rfl rfl hl.1 rfl (lv_room (Nat.le_of_ble_eq_true rfl)) dX10_rows_15 ⟨Nat.le_of_ble_eq_true rfl, Nat.le_of_ble_eq_true rfl⟩) hS (fun q _ h => hF q h) hF (fun r_7 u_11 t_10 H_8 locs_9 ht hvm hr_7 hB hz1 hk1 hS => ?_)
    replace hB : va_P D vwCl [(mo, .inr (9, [.int (nI 0), .int (nI n), .ref mw, .ref mct, .ref mp, .ref mnm, .ref m1, .ref m2, .int om, .int tm, .ref mt, .ref mk, .ref mr, .ref ml, .ref mq]))] H_8 := by rw [← ht]; exact hB
    obtain ⟨hP, hD⟩ := q_join (wc := [(mo, .inr (9, [.int th, .int (nI n), .ref mw, .ref mct, .ref mp, .ref mnm, .ref m1, .ref m2, .int om, .int tm, .ref mt, .ref mk, .ref mr, .ref ml, .ref mq]))]) (w1 := [(mo, .inr (9, [.int (nI 0), .int (nI n), .ref mw, .ref mct, .ref mp, .ref mnm, .ref m1, .ref m2, .int om, .int tm, .ref mt, .ref mk, .ref mr, .ref ml, .ref mq]))]) (ws' := [(mo, .inr (9, [.int (nI 0), .int (nI n), .ref mw, .ref mct, .ref mp, .ref mnm, .ref m1, .ref m2, .int om, .int tm, .ref mt, .ref mk, .ref mr, .ref ml, .ref mq])), (m1, .inl (k5, 11, .inl f1)), (m2, .inl (k6, 11, .inl f2)), (mt, .inl (k7, 121, .inl ft)), (mr, .inl (k9c, 401, .inr (.inl fr)))]) [0] hP hD rfl rfl hk1 hB rfl
    have hR := q_ro hR0 hna hS
    subst hr_7
    refine q_ifb_ne (tgt := 23) hx hb dX10_rows_18 (by decide) (fun _ => ?_) (fun c9 => absurd (by decide) c9)
    have hlx := kz_le (by decide) c_7.2.1 c_7.2.2
    have hl : lv_has ls 9 [(0, .ref mo), (1, .long (lN a)), (3, .int (nI (kz x9)))] := (congrArg (fun v9 => lv_has ls 9 [(0, .ref mo), (1, .long (lN a)), (3, .int v9)]) (kz_of c_7.2.1)).mp hl
    refine lv_aload_n hx hb dX10_rows_23 rfl (lv_at hl 0 rfl) ?_
    refine lv_lload_n hx hb dX10_rows_24 rfl (lv_at hl 1 rfl) ?_
    refine lv_iload_n hx hb dX10_rows_25 rfl (lv_at hl 2 rfl) ?_
    have hF := va_free (wc := [(mo, .inr (9, [.int (nI 0), .int (nI n), .ref mw, .ref mct, .ref mp, .ref mnm, .ref m1, .ref m2, .int om, .int tm, .ref mt, .ref mk, .ref mr, .ref ml, .ref mq])), (m1, .inl (k5, 11, .inl f1)), (m2, .inl (k6, 11, .inl f2)), (mt, .inl (k7, 121, .inl ft)), (mr, .inl (k9c, 401, .inr (.inl fr)))]) hD hS hA [0, 1, 2, 3, 4] rfl
    refine va_calli (va_runV (As := [.long (lN a), .int (nI (kz x9))]) (rest := []) ⟨hx, hb, hml, hown, hts⟩ (c_X10_layRows (l := l) (D := D) (mo := mo) (mw := mw) (mct := mct) (mp := mp) (mnm := mnm) (m1 := m1) (m2 := m2) (mt := mt) (mk := mk) (mr := mr) (ml := ml) (mq := mq) (k1 := k1) (k2 := k2) (k5 := k5) (k6 := k6) (k7 := k7) (k9c := k9c) (th := nI 0) (n := n) (om := om) (tm := tm) (f1 := f1) (f2 := f2) (ft := ft) (fr := fr) (wd := wd) (ct := ct) (a := a) (k := kz x9) (sz := H_8.size) (hnd := (q_nds hnd [0, 1, 2, 3, 4, 5, 6] rfl rfl)) (hga := c_7.1) (hn40 := hn40) (hgw := by omega) (hcb := by omega) (hk3 := by omega)) (cwV 2 hts gX10_rows_X10_layRows rfl rfl rfl (by decide +kernel) ⟨Nat.le_of_ble_eq_true rfl, Nat.le_of_ble_eq_true rfl⟩) ⟨qW_blind, (va_recv hK hP (ci := 9) (q0 := 0) rfl rfl), (qW_of (hR.sub (ws' := [(mw, .inl (k1, 40, .inr (.inl (fun k9 => lN (wd k9))))), (mct, .inl (k2, 40, .inl (fun k9 => nI (ct k9))))]) [0, 1] rfl) (hP.sub (ws' := [(mo, .inr (9, [.int (nI 0), .int (nI n), .ref mw, .ref mct, .ref mp, .ref mnm, .ref m1, .ref m2, .int om, .int tm, .ref mt, .ref mk, .ref mr, .ref ml, .ref mq])), (m1, .inl (k5, 11, .inl f1)), (m2, .inl (k6, 11, .inl f2)), (mt, .inl (k7, 121, .inl ft)), (mr, .inl (k9c, 401, .inr (.inl fr)))]) [0, 1, 2, 3, 4] rfl) (hK.sub (tys' := [(k5, .int), (k6, .int), (k7, .int), (k9c, .long), (k1, .long), (k2, .int)]) [0, 1, 2, 3, 4, 5] rfl) hNw)⟩ rfl rfl hl.1 rfl (lv_room (Nat.le_of_ble_eq_true rfl)) dX10_rows_26 ⟨Nat.le_of_ble_eq_true rfl, Nat.le_of_ble_eq_true rfl⟩) hS (fun q _ h => hF q h) hF (fun r_12 u_16 t_15 H_13 locs_14 ht hvm hr_12 hB hz1 hk1 hS => ?_)
    obtain ⟨o2_17, q2_18, g1_19, g2_20, g3_21, s4⟩ := u_16
    dsimp only at hr_12 hB
    replace hB : va_P D vwCl [(mo, .inr (9, [.int (nI 0), .int (nI n), .ref mw, .ref mct, .ref mp, .ref mnm, .ref m1, .ref m2, .int o2_17, .int q2_18, .ref mt, .ref mk, .ref mr, .ref ml, .ref mq])), (m1, .inl (k5, 11, .inl g1_19)), (m2, .inl (k6, 11, .inl g2_20)), (mt, .inl (k7, 121, .inl g3_21)), (mr, .inl (k9c, 401, .inr (.inl s4)))] H_13 := by rw [← ht]; exact hB
    obtain ⟨hP, hD⟩ := q_join (wc := [(mo, .inr (9, [.int (nI 0), .int (nI n), .ref mw, .ref mct, .ref mp, .ref mnm, .ref m1, .ref m2, .int om, .int tm, .ref mt, .ref mk, .ref mr, .ref ml, .ref mq])), (m1, .inl (k5, 11, .inl f1)), (m2, .inl (k6, 11, .inl f2)), (mt, .inl (k7, 121, .inl ft)), (mr, .inl (k9c, 401, .inr (.inl fr)))]) (w1 := [(mo, .inr (9, [.int (nI 0), .int (nI n), .ref mw, .ref mct, .ref mp, .ref mnm, .ref m1, .ref m2, .int o2_17, .int q2_18, .ref mt, .ref mk, .ref mr, .ref ml, .ref mq])), (m1, .inl (k5, 11, .inl g1_19)), (m2, .inl (k6, 11, .inl g2_20)), (mt, .inl (k7, 121, .inl g3_21)), (mr, .inl (k9c, 401, .inr (.inl s4)))]) (ws' := [(mo, .inr (9, [.int (nI 0), .int (nI n), .ref mw, .ref mct, .ref mp, .ref mnm, .ref m1, .ref m2, .int o2_17, .int q2_18, .ref mt, .ref mk, .ref mr, .ref ml, .ref mq])), (m1, .inl (k5, 11, .inl g1_19)), (m2, .inl (k6, 11, .inl g2_20)), (mt, .inl (k7, 121, .inl g3_21)), (mr, .inl (k9c, 401, .inr (.inl s4)))]) [0, 1, 2, 3, 4] hP hD rfl rfl hk1 hB rfl
    have hR := q_ro hR0 hna hS
    obtain ⟨rfl, hcts⟩ := hr_12
    have hln := lrn_len (wd := wd) (ct := ct) (a := a) (k := kz x9) n
    have hbd := lrn_bnd (wd := wd) (ct := ct) (gw_wl c_7.1) hlx n
    refine lv_istore (lv' := [(4, .int (nI (List.length (lrn wd ct a (kz x9) n)))), (0, .ref mo), (1, .long (lN a)), (3, .int (nI (kz x9)))]) hx hb dX10_rows_29 hl (by decide) rfl (fun ls hl => ?_)
    refine lv_iconst (v := nI 0) hx hb dX10_rows_31 (by decide) ?_
    refine lv_istore (lv' := [(5, .int (nI 0)), (4, .int (nI (List.length (lrn wd ct a (kz x9) n)))), (0, .ref mo), (1, .long (lN a)), (3, .int (nI (kz x9)))]) hx hb dX10_rows_32 hl (by decide) rfl (fun ls hl => ?_)
    refine lv_iconst (v := nI 0) hx hb dX10_rows_34 (by decide) ?_
    refine lv_istore (lv' := [(6, .int (nI 0)), (5, .int (nI 0)), (4, .int (nI (List.length (lrn wd ct a (kz x9) n)))), (0, .ref mo), (1, .long (lN a)), (3, .int (nI (kz x9)))]) hx hb dX10_rows_35 hl (by decide) rfl (fun ls hl => ?_)
    refine q_loop (fun (x : (Nat)) (Hc : Heap) (Lc : List Loc) (ls : Array Slot) => match x with | i => (i ≤ List.length (lrn wd ct a (kz x9) n)) ∧ H_13 = Hc ∧ locs_14 = Lc ∧ lv_has ls 9 [(6, .int (nI i)), (5, .int (nI (dcl (lrn wd ct a (kz x9) n) i))), (4, .int (nI (List.length (lrn wd ct a (kz x9) n)))), (0, .ref mo), (1, .long (lN a)), (3, .int (nI (kz x9)))]) (fun (x : (Nat)) => match x with | i => List.length (lrn wd ct a (kz x9) n) - i) 0 ⟨(by omega), rfl, rfl, (lv_sub hl [0, 1, 2, 3, 4, 5] rfl)⟩ ?_
    clear hl
    rintro i Hc Lc ls hI ih_37
    obtain ⟨hi, rfl, rfl, hl⟩ := hI
    refine lv_iload hx hb dX10_rows_37 (lv_at hl 0 rfl) ?_
    refine lv_iload hx hb dX10_rows_39 (lv_at hl 2 rfl) ?_
    refine q_icmp_ge (a := i) (b := List.length (lrn wd ct a (kz x9) n)) (tgt := 114) hx hb dX10_rows_41 (by decide) (by omega) (by omega) (fun c_41 => ?_) (fun c_41 => ?_)
    · skip
      refine lv_iload hx hb dX10_rows_114 (lv_at hl 1 rfl) ?_
      exact W.iret (v := nI (dcl (lrn wd ct a (kz x9) n) i)) hx hb hr (fun t9 ht hW => ⟨⟨nI (dcl (lrn wd ct a (kz x9) n) i), (nI 0, o2_17, q2_18, g1_19, g2_20, g3_21, s4), rfl, ⟨(by rw [if_pos c_7]), (fun _ => by rw [show List.length (lrn wd ct a (kz x9) n) = i by omega])⟩, by show va_P D vwCl _ t9.heap; rw [ht]; exact hP⟩, hS.F ht⟩) hS.2.2 dX10_rows_116
    · skip
      refine lv_iconst (v := nI 1) hx hb dX10_rows_44 (by decide) ?_
      refine lv_istore (lv' := [(7, .int (nI 1)), (6, .int (nI i)), (5, .int (nI (dcl (lrn wd ct a (kz x9) n) i))), (4, .int (nI (List.length (lrn wd ct a (kz x9) n)))), (0, .ref mo), (1, .long (lN a)), (3, .int (nI (kz x9)))]) hx hb dX10_rows_45 hl (by decide) rfl (fun ls hl => ?_)
      refine lv_iconst (v := nI 0) hx hb dX10_rows_47 (by decide) ?_
      refine lv_istore (lv' := [(8, .int (nI 0)), (7, .int (nI 1)), (6, .int (nI i)), (5, .int (nI (dcl (lrn wd ct a (kz x9) n) i))), (4, .int (nI (List.length (lrn wd ct a (kz x9) n)))), (0, .ref mo), (1, .long (lN a)), (3, .int (nI (kz x9)))]) hx hb dX10_rows_48 hl (by decide) rfl (fun ls hl => ?_)
      refine q_loop (fun (x : (Nat) × (Nat)) (Hc : Heap) (Lc : List Loc) (ls : Array Slot) => match x with | (j, b) => (j ≤ i) ∧ (b ≤ 1) ∧ (b = 1 ↔ ∀ j9, j9 < j → List.getD (lrn wd ct a (kz x9) n) j9 0 ≠ List.getD (lrn wd ct a (kz x9) n) i 0) ∧ H_13 = Hc ∧ locs_14 = Lc ∧ lv_has ls 9 [(8, .int (nI j)), (7, .int (nI b)), (6, .int (nI i)), (5, .int (nI (dcl (lrn wd ct a (kz x9) n) i))), (4, .int (nI (List.length (lrn wd ct a (kz x9) n)))), (0, .ref mo), (1, .long (lN a)), (3, .int (nI (kz x9)))]) (fun (x : (Nat) × (Nat)) => match x with | (j, b) => i - j) (0, 1) ⟨(by omega), (by omega), ⟨fun _ j9 h9 => by omega, fun _ => rfl⟩, rfl, rfl, (lv_sub hl [0, 1, 2, 3, 4, 5, 6, 7] rfl)⟩ ?_
      clear hl
      rintro ⟨j, b⟩ Hc Lc ls hI ih_50
      obtain ⟨hj, hb1, hbv, rfl, rfl, hl⟩ := hI
      refine lv_iload hx hb dX10_rows_50 (lv_at hl 0 rfl) ?_
      refine lv_iload hx hb dX10_rows_52 (lv_at hl 2 rfl) ?_
      refine q_icmp_ge (a := j) (b := i) (tgt := 93) hx hb dX10_rows_54 (by decide) (by omega) (by omega) (fun c_54 => ?_) (fun c_54 => ?_)
      · skip
        refine lv_iload hx hb dX10_rows_93 (lv_at hl 3 rfl) ?_
        refine lv_iload hx hb dX10_rows_95 (lv_at hl 1 rfl) ?_
        have eji : j = i := by omega
        have hbi := hbv
        rw [eji] at hbi
        refine q_cut 105 (fun (x : (Nat)) (Hc : Heap) (Lc : List Loc) (ls : Array Slot) (st : List Value) => match x with | z => (dcl (lrn wd ct a (kz x9) n) i + z = dcl (lrn wd ct a (kz x9) n) (i + 1)) ∧ H_13 = Hc ∧ locs_14 = Lc ∧ lv_has ls 9 [(8, .int (nI j)), (7, .int (nI b)), (6, .int (nI i)), (5, .int (nI (dcl (lrn wd ct a (kz x9) n) i))), (4, .int (nI (List.length (lrn wd ct a (kz x9) n)))), (0, .ref mo), (1, .long (lN a)), (3, .int (nI (kz x9)))] ∧ [.int (nI z), .int (nI (dcl (lrn wd ct a (kz x9) n) i))] = st) ?_ ?_
        · clear hl
          rintro z Hc Lc ls st hI
          obtain ⟨hz, rfl, rfl, hl, rfl⟩ := hI
          refine q_iadd (d := dcl (lrn wd ct a (kz x9) n) i + z) hx hb dX10_rows_105 (by omega) ?_
          refine q_cvi (show (nI (dcl (lrn wd ct a (kz x9) n) i + z)) = (nI (dcl (lrn wd ct a (kz x9) n) (i + 1))) from (by rw [hz])) ?_
          refine lv_istore (lv' := [(5, .int (nI (dcl (lrn wd ct a (kz x9) n) (i + 1)))), (8, .int (nI j)), (7, .int (nI b)), (6, .int (nI i)), (4, .int (nI (List.length (lrn wd ct a (kz x9) n)))), (0, .ref mo), (1, .long (lN a)), (3, .int (nI (kz x9)))]) hx hb dX10_rows_106 hl (by decide) rfl (fun ls hl => ?_)
          refine lv_iinc (v := nI (i + 1)) (lv' := [(6, .int (nI (i + 1))), (5, .int (nI (dcl (lrn wd ct a (kz x9) n) (i + 1)))), (8, .int (nI j)), (7, .int (nI b)), (4, .int (nI (List.length (lrn wd ct a (kz x9) n)))), (0, .ref mo), (1, .long (lN a)), (3, .int (nI (kz x9)))]) hx hb dX10_rows_108 hl (k := 3) rfl (q_inc (k := 1) (by omega)) (by decide) rfl (fun ls hl => ?_)
          refine lv_goto (tgt := 37) hx hb dX10_rows_111 (by decide) ?_
          exact ih_37 (i + 1) _ _ _ ⟨(by omega), rfl, rfl, (lv_sub hl [0, 1, 4, 5, 6, 7] rfl)⟩ (by show List.length (lrn wd ct a (kz x9) n) - (i + 1) < List.length (lrn wd ct a (kz x9) n) - i; omega)
        · intro hcut_105
          have eji : j = i := by omega
          have hbi := hbv
          rw [eji] at hbi
          refine q_if_eq (a := b) (tgt := 104) hx hb dX10_rows_97 (by decide) (by omega) (fun c_97 => ?_) (fun c_97 => ?_)
          · skip
            refine lv_iconst (v := nI 0) hx hb dX10_rows_104 (by decide) ?_
            exact hcut_105 0 _ _ _ _ ⟨(cnt_f (by rw [decide_eq_true_eq]; exact fun h9 => by have := hbi.mpr h9; omega)).symm, rfl, rfl, (lv_sub hl [0, 1, 2, 3, 4, 5, 6, 7] rfl), rfl⟩
          · skip
            refine lv_iconst (v := nI 1) hx hb dX10_rows_100 (by decide) ?_
            refine lv_goto (tgt := 105) hx hb dX10_rows_101 (by decide) ?_
            exact hcut_105 1 _ _ _ _ ⟨(cnt_t (decide_eq_true (hbi.mp (by omega)))).symm, rfl, rfl, (lv_sub hl [0, 1, 2, 3, 4, 5, 6, 7] rfl), rfl⟩
      · skip
        refine lv_iload hx hb dX10_rows_57 (lv_at hl 1 rfl) ?_
        refine q_cut 85 (fun (x : (Nat)) (Hc : Heap) (Lc : List Loc) (ls : Array Slot) (st : List Value) => match x with | b2 => (b2 ≤ 1) ∧ (b2 = 1 ↔ (b = 1 ∧ List.getD (lrn wd ct a (kz x9) n) j 0 ≠ List.getD (lrn wd ct a (kz x9) n) i 0)) ∧ H_13 = Hc ∧ locs_14 = Lc ∧ lv_has ls 9 [(8, .int (nI j)), (7, .int (nI b)), (6, .int (nI i)), (5, .int (nI (dcl (lrn wd ct a (kz x9) n) i))), (4, .int (nI (List.length (lrn wd ct a (kz x9) n)))), (0, .ref mo), (1, .long (lN a)), (3, .int (nI (kz x9)))] ∧ [.int (nI b2)] = st) ?_ ?_
        · clear hl
          rintro b2 Hc Lc ls st hI
          obtain ⟨h3, h4, rfl, rfl, hl, rfl⟩ := hI
          refine lv_istore (lv' := [(7, .int (nI b2)), (8, .int (nI j)), (6, .int (nI i)), (5, .int (nI (dcl (lrn wd ct a (kz x9) n) i))), (4, .int (nI (List.length (lrn wd ct a (kz x9) n)))), (0, .ref mo), (1, .long (lN a)), (3, .int (nI (kz x9)))]) hx hb dX10_rows_85 hl (by decide) rfl (fun ls hl => ?_)
          refine lv_iinc (v := nI (j + 1)) (lv' := [(8, .int (nI (j + 1))), (7, .int (nI b2)), (6, .int (nI i)), (5, .int (nI (dcl (lrn wd ct a (kz x9) n) i))), (4, .int (nI (List.length (lrn wd ct a (kz x9) n)))), (0, .ref mo), (1, .long (lN a)), (3, .int (nI (kz x9)))]) hx hb dX10_rows_87 hl (k := 1) rfl (q_inc (k := 1) (by omega)) (by decide) rfl (fun ls hl => ?_)
          refine lv_goto (tgt := 50) hx hb dX10_rows_90 (by decide) ?_
          exact ih_50 (j + 1, b2) _ _ _ ⟨(by omega), h3, (by rw [h4, hbv]; constructor; (rintro ⟨q1, q2⟩ j9 hj9; by_cases e : j9 = j; (rw [e]; exact q2); (exact q1 j9 (by omega))); (intro q1; exact ⟨fun j9 hj9 => q1 j9 (by omega), q1 j (by omega)⟩)), rfl, rfl, (lv_sub hl [0, 1, 2, 3, 4, 5, 6, 7] rfl)⟩ (by show i - (j + 1) < i - j; omega)
        · intro hcut_85
          refine q_if_eq (a := b) (tgt := 84) hx hb dX10_rows_59 (by decide) (by omega) (fun c_59 => ?_) (fun c_59 => ?_)
          · skip
            refine lv_iconst (v := nI 0) hx hb dX10_rows_84 (by decide) ?_
            exact hcut_85 0 _ _ _ _ ⟨(by omega), (by omega), rfl, rfl, (lv_sub hl [0, 1, 2, 3, 4, 5, 6, 7] rfl), rfl⟩
          · skip
            refine lv_aload_n hx hb dX10_rows_62 rfl (lv_at hl 5 rfl) ?_
            refine va_get (D := D) (own := RX10) (ref := "FuzzyFensModel") (ci := 9) (v := .ref mr) (C := RX10) (T := TX10) (N := 15) hx hb hts iX10_rows_X10 hown hK hP 0 rfl rfl 12 (by decide) (hts (.fieldLink RX10 35 "FuzzyFensModel" "rows" "[J") (List.mem_of_getElem? (i := 1) rfl)) (fun _ h9 => h9) rfl dX10_rows_63 ?_
            refine lv_iload hx hb dX10_rows_66 (lv_at hl 0 rfl) ?_
            refine va_lald (D := D) hx hb hK hP 4 3 rfl rfl (vp_in_nI (n := j) (N := 401) (by omega) (by decide)) dX10_rows_68 ?_
            rw [nI_clamp (n := j) (by omega)]
            refine q_cvl (show (s4 j) = (lN (List.getD (lrn wd ct a (kz x9) n) j 0)) from hcts j (by omega)) ?_
            refine lv_aload_n hx hb dX10_rows_69 rfl (lv_at hl 5 rfl) ?_
            refine va_get (D := D) (own := RX10) (ref := "FuzzyFensModel") (ci := 9) (v := .ref mr) (C := RX10) (T := TX10) (N := 15) hx hb hts iX10_rows_X10 hown hK hP 0 rfl rfl 12 (by decide) (hts (.fieldLink RX10 35 "FuzzyFensModel" "rows" "[J") (List.mem_of_getElem? (i := 1) rfl)) (fun _ h9 => h9) rfl dX10_rows_70 ?_
            refine lv_iload hx hb dX10_rows_73 (lv_at hl 2 rfl) ?_
            refine va_lald (D := D) hx hb hK hP 4 3 rfl rfl (vp_in_nI (n := i) (N := 401) (by omega) (by decide)) dX10_rows_75 ?_
            rw [nI_clamp (n := i) (by omega)]
            refine q_cvl (show (s4 i) = (lN (List.getD (lrn wd ct a (kz x9) n) i 0)) from hcts i (by omega)) ?_
            refine W.lcmp hx hb dX10_rows_76 ?_
            refine q_lc_eq (a := List.getD (lrn wd ct a (kz x9) n) j 0) (b := List.getD (lrn wd ct a (kz x9) n) i 0) (tgt := 84) hx hb dX10_rows_77 (by decide) (by have := hbd j (by omega); omega) (by have := hbd i (by omega); omega) (fun c_77 => ?_) (fun c_77 => ?_)
            · skip
              refine lv_iconst (v := nI 0) hx hb dX10_rows_84 (by decide) ?_
              exact hcut_85 0 _ _ _ _ ⟨(by omega), (by omega), rfl, rfl, (lv_sub hl [0, 1, 2, 3, 4, 5, 6, 7] rfl), rfl⟩
            · skip
              refine lv_iconst (v := nI 1) hx hb dX10_rows_80 (by decide) ?_
              refine lv_goto (tgt := 85) hx hb dX10_rows_81 (by decide) ?_
              exact hcut_85 1 _ _ _ _ ⟨(by omega), (by omega), rfl, rfl, (lv_sub hl [0, 1, 2, 3, 4, 5, 6, 7] rfl), rfl⟩
