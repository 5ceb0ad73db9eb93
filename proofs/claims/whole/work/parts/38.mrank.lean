set_option maxRecDepth 20000 in
theorem iX10_count_X10 : ∀ w ∈ wsX100, w ∈ wsX10_count := by decide +kernel
set_option maxHeartbeats 4000000 in
set_option maxRecDepth 100000 in
/-- count -/
theorem c_X10_count (l : Launch) (D : va_G) (sz : Nat) (mo : Nat) (mw : Nat) (mct : Nat) (mp : Nat) (mnm : Nat) (m1 : Nat) (m2 : Nat) (mt : Nat) (mk : Nat) (mr : Nat) (ml : Nat) (mq : Nat) (k1 : ClassId) (k2 : ClassId) (th : Int32) (n : Nat) (om : Int32) (tm : Int32) (wd : Nat → Nat) (ct : Nat → Nat) (a : Nat) (hnd : ([mo] ++ [mw, mct]).Nodup) (ha : a < 2 ^ 64) (hn40 : n ≤ 40) (hgw : ∀ k, k < n → gw (wd k)) (hinj : ∀ i j, i < n → j < n → wd i = wd j → i = j) : Met l yX10_count wsX10_count { frames := 2, cells := 0, slots := 0, locals := 48 } (va_Pc [.ref mo, .long (lN a)] (qW D sz ([(mw, .inl (k1, 40, .inr (.inl (fun k9 => lN (wd k9))))), (mct, .inl (k2, 40, .inl (fun k9 => nI (ct k9))))]) [(mo, .inr (9, [.int th, .int (nI n), .ref mw, .ref mct, .ref mp, .ref mnm, .ref m1, .ref m2, .int om, .int tm, .ref mt, .ref mk, .ref mr, .ref ml, .ref mq]))] [(k1, .long), (k2, .int)])) (va_Qi (fun (rv : Int32) (uv : (Int32)) => uv = nI (if gw a then 0 else 1) ∧ (gw a → rv = nI (cof (ffi (fun k => decide (wd k = a)) n) ct))) (fun (uv : (Int32)) (tv : State) => va_P D vwCl [(mo, .inr (9, [.int uv, .int (nI n), .ref mw, .ref mct, .ref mp, .ref mnm, .ref m1, .ref m2, .int om, .int tm, .ref mt, .ref mk, .ref mr, .ref ml, .ref mq]))] tv.heap) (va_A [(mo, .inr (9, [.int th, .int (nI n), .ref mw, .ref mct, .ref mp, .ref mnm, .ref m1, .ref m2, .int om, .int tm, .ref mt, .ref mk, .ref mr, .ref ml, .ref mq]))] sz)) 0 0 (va_A [(mo, .inr (9, [.int th, .int (nI n), .ref mw, .ref mct, .ref mp, .ref mnm, .ref m1, .ref m2, .int om, .int tm, .ref mt, .ref mk, .ref mr, .ref ml, .ref mq]))] sz) := by
  refine Met.ofW (cc := cX10_count) (maxL := 4) (ret := (some .int)) (by decide) rfl ?_
  intro pM eM s mi9 argsM belowM methM cM sM B hml hv
  obtain ⟨rfl, hsz, hR0, hP, hK, hNw⟩ := hv
  have hx := B.exec
  have hb := B.bytes
  have hr := B.returns
  have hts := atoms_spec (ws := wsX10_count) B.pre
  have hown : s.vm.findClass RX10 = some mi9.cls := findClass_of_methodNamed B.named
  have hlocks := B.notSynchronized
  subst hsz
  have hna := q_na (RW := [(mo, .inr (9, [.int th, .int (nI n), .ref mw, .ref mct, .ref mp, .ref mnm, .ref m1, .ref m2, .int om, .int tm, .ref mt, .ref mk, .ref mr, .ref ml, .ref mq]))]) (RO := [(mw, .inl (k1, 40, .inr (.inl (fun k9 => lN (wd k9))))), (mct, .inl (k2, 40, .inl (fun k9 => nI (ct k9))))]) hnd rfl rfl hR0
  have hD := q_D (RW := [(mo, .inr (9, [.int th, .int (nI n), .ref mw, .ref mct, .ref mp, .ref mnm, .ref m1, .ref m2, .int om, .int tm, .ref mt, .ref mk, .ref mr, .ref ml, .ref mq]))]) (sz := s.heap.size) hnd rfl
  have hA : ∀ q : Nat, s.heap.size ≤ q → va_A [(mo, .inr (9, [.int th, .int (nI n), .ref mw, .ref mct, .ref mp, .ref mnm, .ref m1, .ref m2, .int om, .int tm, .ref mt, .ref mk, .ref mr, .ref ml, .ref mq]))] s.heap.size q := fun q h => Or.inr h
  generalize hAe : va_A [(mo, .inr (9, [.int th, .int (nI n), .ref mw, .ref mct, .ref mp, .ref mnm, .ref m1, .ref m2, .int om, .int tm, .ref mt, .ref mk, .ref mr, .ref ml, .ref mq]))] s.heap.size = A at hna hD hA ⊢
  have hS : va_S A s.heap s.heap [] := va_S.rf
  have hR := hR0
  have hP : va_P D vwCl [(mo, .inr (9, [.int th, .int (nI n), .ref mw, .ref mct, .ref mp, .ref mnm, .ref m1, .ref m2, .int om, .int tm, .ref mt, .ref mk, .ref mr, .ref ml, .ref mq]))] s.heap := hP
  have hl := lv_entry ([.ref mo, .long (lN a)]) (n := 4) (Nat.le_of_ble_eq_true rfl)
  rw [lg_entry_eq]
  generalize (lg_sl ([.ref mo, .long (lN a)]) ++ List.replicate (4 - (lg_sl ([.ref mo, .long (lN a)])).length) Slot.unset).toArray = ls at hl ⊢
  have hl : lv_has ls 4 [(0, .ref mo), (1, .long (lN a))] := hl
  refine lv_aload_n hx hb dX10_count_0 rfl (lv_at hl 0 rfl) ?_
  refine lv_lload_n hx hb dX10_count_1 rfl (lv_at hl 1 rfl) ?_
  refine vp_callSi (W.runS (As := [.long (lN a)]) (rest := [.ref mo]) ⟨hx, hb, hml, hown, hts⟩ (c_X10_isWord (l := l) (D := D) (a := a) (ha := ha)) (va_cwS 1 hts gX10_count_X10_isWord rfl rfl rfl (by decide +kernel) ⟨Nat.le_of_ble_eq_true rfl, Nat.le_of_ble_eq_true rfl⟩) ⟨qP_blind, (qP_of (q_Pof (fun _ h => absurd h List.not_mem_nil)) (hK.sub (tys' := []) [] rfl) hNw)⟩ rfl rfl hl.1 rfl (lv_room (Nat.le_of_ble_eq_true rfl)) dX10_count_2 ⟨Nat.le_of_ble_eq_true rfl, Nat.le_of_ble_eq_true rfl⟩) (fun r_1 hr_1 => ?_)
  subst hr_1
  refine q_ifb_eq (tgt := 12) hx hb dX10_count_5 (by decide) (fun c_5 => ?_) (fun c_5 => ?_)
  · skip
    refine lv_iconst (v := nI 1) hx hb dX10_count_12 (by decide) ?_
    have hF := va_free (wc := [(mo, .inr (9, [.int th, .int (nI n), .ref mw, .ref mct, .ref mp, .ref mnm, .ref m1, .ref m2, .int om, .int tm, .ref mt, .ref mk, .ref mr, .ref ml, .ref mq]))]) hD hS hA [0] rfl
    refine va_calli (va_runV (As := [.int (nI 1)]) (rest := []) ⟨hx, hb, hml, hown, hts⟩ (c_X10_goesWell (l := l) (D := D) (mo := mo) (mw := mw) (mct := mct) (mp := mp) (mnm := mnm) (m1 := m1) (m2 := m2) (mt := mt) (mk := mk) (mr := mr) (ml := ml) (mq := mq) (th := th) (n := n) (om := om) (tm := tm) (x9 := 1) (sz := s.heap.size) (hnd := (q_nds hnd [0] rfl rfl)) (hx9 := by omega)) (cwV 1 hts gX10_count_X10_goesWell rfl rfl rfl (by decide +kernel) ⟨Nat.le_of_ble_eq_true rfl, Nat.le_of_ble_eq_true rfl⟩) ⟨qW_blind, (va_recv hK hP (ci := 9) (q0 := 0) rfl rfl), (qW_of (q_Pof (fun _ h => absurd h List.not_mem_nil)) (hP.sub (ws' := [(mo, .inr (9, [.int th, .int (nI n), .ref mw, .ref mct, .ref mp, .ref mnm, .ref m1, .ref m2, .int om, .int tm, .ref mt, .ref mk, .ref mr, .ref ml, .ref mq]))]) [0] rfl) (hK.sub (tys' := []) [] rfl) hNw)⟩ rfl rfl hl.1 rfl (lv_room (Nat.le_of_ble_eq_true rfl)) dX10_count_13 ⟨Nat.le_of_ble_eq_true rfl, Nat.le_of_ble_eq_true rfl⟩) hS (fun q _ h => hF q h) hF (fun r_2 u_6 t_5 H_3 locs_4 ht hvm hr_2 hB hz1 hk1 hS => ?_)
    replace hB : va_P D vwCl [(mo, .inr (9, [.int (nI 1), .int (nI n), .ref mw, .ref mct, .ref mp, .ref mnm, .ref m1, .ref m2, .int om, .int tm, .ref mt, .ref mk, .ref mr, .ref ml, .ref mq]))] H_3 := by rw [← ht]; exact hB
    obtain ⟨hP, hD⟩ := q_join (wc := [(mo, .inr (9, [.int th, .int (nI n), .ref mw, .ref mct, .ref mp, .ref mnm, .ref m1, .ref m2, .int om, .int tm, .ref mt, .ref mk, .ref mr, .ref ml, .ref mq]))]) (w1 := [(mo, .inr (9, [.int (nI 1), .int (nI n), .ref mw, .ref mct, .ref mp, .ref mnm, .ref m1, .ref m2, .int om, .int tm, .ref mt, .ref mk, .ref mr, .ref ml, .ref mq]))]) (ws' := [(mo, .inr (9, [.int (nI 1), .int (nI n), .ref mw, .ref mct, .ref mp, .ref mnm, .ref m1, .ref m2, .int om, .int tm, .ref mt, .ref mk, .ref mr, .ref ml, .ref mq]))]) [0] hP hD rfl rfl hk1 hB rfl
    have hR := q_ro hR0 hna hS
    subst hr_2
    refine q_ifb_ne (tgt := 21) hx hb dX10_count_16 (by decide) (fun c9 => absurd c9 (by decide)) (fun _ => ?_)
    refine lv_iconst (v := nI 0) hx hb dX10_count_19 (by decide) ?_
    exact W.iret (v := nI 0) hx hb hr (fun t9 ht hW => ⟨⟨nI 0, nI 1, rfl, ⟨(by rw [if_neg c_5]), (fun h9 => absurd h9 c_5)⟩, by show va_P D vwCl _ t9.heap; rw [ht]; exact hP⟩, hS.F ht⟩) hS.2.2 dX10_count_20
  · skip
    refine lv_iconst (v := nI 0) hx hb dX10_count_8 (by decide) ?_
    refine lv_goto (tgt := 13) hx hb dX10_count_9 (by decide) ?_
    have hF := va_free (wc := [(mo, .inr (9, [.int th, .int (nI n), .ref mw, .ref mct, .ref mp, .ref mnm, .ref m1, .ref m2, .int om, .int tm, .ref mt, .ref mk, .ref mr, .ref ml, .ref mq]))]) hD hS hA [0] rfl
    refine va_calli (va_runV (As := [.int (nI 0)]) (rest := []) ⟨hx, hb, hml, hown, hts⟩ (c_X10_goesWell (l := l) (D := D) (mo := mo) (mw := mw) (mct := mct) (mp := mp) (mnm := mnm) (m1 := m1) (m2 := m2) (mt := mt) (mk := mk) (mr := mr) (ml := ml) (mq := mq) (th := th) (n := n) (om := om) (tm := tm) (x9 := 0) (sz := s.heap.size) (hnd := (q_nds hnd [0] rfl rfl)) (hx9 := by omega)) (cwV 1 hts gX10_count_X10_goesWell rfl rfl rfl (by decide +kernel) ⟨Nat.le_of_ble_eq_true rfl, Nat.le_of_ble_eq_true rfl⟩) ⟨qW_blind, (va_recv hK hP (ci := 9) (q0 := 0) rfl rfl), (qW_of (q_Pof (fun _ h => absurd h List.not_mem_nil)) (hP.sub (ws' := [(mo, .inr (9, [.int th, .int (nI n), .ref mw, .ref mct, .ref mp, .ref mnm, .ref m1, .ref m2, .int om, .int tm, .ref mt, .ref mk, .ref mr, .ref ml, .ref mq]))]) [0] rfl) (hK.sub (tys' := []) [] rfl) hNw)⟩ rfl rfl hl.1 rfl (lv_room (Nat.le_of_ble_eq_true rfl)) dX10_count_13 ⟨Nat.le_of_ble_eq_true rfl, Nat.le_of_ble_eq_true rfl⟩) hS (fun q _ h => hF q h) hF (fun r_7 u_11 t_10 H_8 locs_9 ht hvm hr_7 hB hz1 hk1 hS => ?_)
    replace hB : va_P D vwCl [(mo, .inr (9, [.int (nI 0), .int (nI n), .ref mw, .ref mct, .ref mp, .ref mnm, .ref m1, .ref m2, .int om, .int tm, .ref mt, .ref mk, .ref mr, .ref ml, .ref mq]))] H_8 := by rw [← ht]; exact hB
    obtain ⟨hP, hD⟩ := q_join (wc := [(mo, .inr (9, [.int th, .int (nI n), .ref mw, .ref mct, .ref mp, .ref mnm, .ref m1, .ref m2, .int om, .int tm, .ref mt, .ref mk, .ref mr, .ref ml, .ref mq]))]) (w1 := [(mo, .inr (9, [.int (nI 0), .int (nI n), .ref mw, .ref mct, .ref mp, .ref mnm, .ref m1, .ref m2, .int om, .int tm, .ref mt, .ref mk, .ref mr, .ref ml, .ref mq]))]) (ws' := [(mo, .inr (9, [.int (nI 0), .int (nI n), .ref mw, .ref mct, .ref mp, .ref mnm, .ref m1, .ref m2, .int om, .int tm, .ref mt, .ref mk, .ref mr, .ref ml, .ref mq]))]) [0] hP hD rfl rfl hk1 hB rfl
    have hR := q_ro hR0 hna hS
    subst hr_7
    refine q_ifb_ne (tgt := 21) hx hb dX10_count_16 (by decide) (fun _ => ?_) (fun c9 => absurd (by decide) c9)
    refine lv_aload_n hx hb dX10_count_21 rfl (lv_at hl 0 rfl) ?_
    refine lv_lload_n hx hb dX10_count_22 rfl (lv_at hl 1 rfl) ?_
    refine vp_callSi (W.runV (As := [.long (lN a)]) (rest := []) ⟨hx, hb, hml, hown, hts⟩ (c_X10_find (l := l) (D := D) (mo := mo) (mw := mw) (mct := mct) (mp := mp) (mnm := mnm) (m1 := m1) (m2 := m2) (mt := mt) (mk := mk) (mr := mr) (ml := ml) (mq := mq) (k1 := k1) (th := nI 0) (n := n) (om := om) (tm := tm) (wd := wd) (v := a) (hv9 := by have := gw_lt c_5; omega) (hn40 := hn40) (hgw := hgw) (hinj := hinj)) (cwV 1 hts gX10_count_X10_find rfl rfl rfl (by decide +kernel) ⟨Nat.le_of_ble_eq_true rfl, Nat.le_of_ble_eq_true rfl⟩) ⟨qP_blind, (va_recv hK hP (ci := 9) (q0 := 0) rfl rfl), (qP_of (show va_P D vwCl [(mo, .inr (9, [.int (nI 0), .int (nI n), .ref mw, .ref mct, .ref mp, .ref mnm, .ref m1, .ref m2, .int om, .int tm, .ref mt, .ref mk, .ref mr, .ref ml, .ref mq])), (mw, .inl (k1, 40, .inr (.inl (fun k9 => lN (wd k9)))))] _ from (va_P.app (hP.sub (ws' := [(mo, .inr (9, [.int (nI 0), .int (nI n), .ref mw, .ref mct, .ref mp, .ref mnm, .ref m1, .ref m2, .int om, .int tm, .ref mt, .ref mk, .ref mr, .ref ml, .ref mq]))]) [0] rfl) (hR.sub (ws' := [(mw, .inl (k1, 40, .inr (.inl (fun k9 => lN (wd k9)))))]) [0] rfl))) (hK.sub (tys' := [(k1, .long)]) [0] rfl) hNw)⟩ rfl rfl hl.1 rfl (lv_room (Nat.le_of_ble_eq_true rfl)) dX10_count_23 ⟨Nat.le_of_ble_eq_true rfl, Nat.le_of_ble_eq_true rfl⟩) (fun r_12 hr_12 => ?_)
    subst hr_12
    refine lv_istore_n (lv' := [(3, .int (pin (ffi (fun k => decide (wd k = a)) n))), (0, .ref mo), (1, .long (lN a))]) hx hb dX10_count_26 rfl hl (by decide) rfl (fun ls hl => ?_)
    refine lv_iload_n hx hb dX10_count_27 rfl (lv_at hl 0 rfl) ?_
    refine lv_iconst (v := (-1)) hx hb dX10_count_28 (by decide) ?_
    refine q_pin_ne (o := ffi (fun k => decide (wd k = a)) n) (tgt := 36) hx hb dX10_count_29 (by decide) (fun i9 h9 => by have := (ffi_some h9).1; omega) (fun c_29 => ?_) (fun i7 c_29 => ?_)
    · skip
      have hl : lv_has ls 4 [(3, .int ((-1))), (0, .ref mo), (1, .long (lN a))] := by rw [c_29] at hl; exact hl
      refine lv_iconst (v := nI 0) hx hb dX10_count_32 (by decide) ?_
      refine lv_goto (tgt := 42) hx hb dX10_count_33 (by decide) ?_
      exact W.iret (v := nI 0) hx hb hr (fun t9 ht hW => ⟨⟨nI 0, nI 0, rfl, ⟨(by rw [if_pos c_5]), (fun _ => by rw [c_29]; rfl)⟩, by show va_P D vwCl _ t9.heap; rw [ht]; exact hP⟩, hS.F ht⟩) hS.2.2 dX10_count_42
    · skip
      have hi7 := (ffi_some c_29).1
      have hl : lv_has ls 4 [(3, .int (nI i7)), (0, .ref mo), (1, .long (lN a))] := by rw [c_29] at hl; exact hl
      refine lv_aload_n hx hb dX10_count_36 rfl (lv_at hl 1 rfl) ?_
      refine va_get (D := D) (own := RX10) (ref := "FuzzyFensModel") (ci := 9) (v := .ref mct) (C := RX10) (T := TX10) (N := 15) hx hb hts iX10_count_X10 hown hK hP 0 rfl rfl 3 (by decide) (hts (.fieldLink RX10 13 "FuzzyFensModel" "counts" "[I") (List.mem_of_getElem? (i := 1) rfl)) (fun _ h9 => h9) rfl dX10_count_37 ?_
      refine lv_iload_n hx hb dX10_count_40 rfl (lv_at hl 0 rfl) ?_
      refine va_iald (D := D) hx hb hK hR 1 1 rfl rfl (vp_in_nI (n := i7) (N := 40) (by omega) (by decide)) dX10_count_41 ?_
      rw [nI_clamp (n := i7) (by omega)]
      refine q_cvi (show (fun k9 => nI (ct k9)) i7 = nI (ct i7) from rfl) ?_
      exact W.iret (v := nI (ct i7)) hx hb hr (fun t9 ht hW => ⟨⟨nI (ct i7), nI 0, rfl, ⟨(by rw [if_pos c_5]), (fun _ => by rw [c_29]; rfl)⟩, by show va_P D vwCl _ t9.heap; rw [ht]; exact hP⟩, hS.F ht⟩) hS.2.2 dX10_count_42

set_option maxRecDepth 20000 in
theorem iX10_wordAt_X10 : ∀ w ∈ wsX100, w ∈ wsX10_wordAt := by decide +kernel
set_option maxHeartbeats 4000000 in
set_option maxRecDepth 100000 in
/-- wordAt -/
theorem c_X10_wordAt (l : Launch) (D : va_G) (sz : Nat) (mo : Nat) (mw : Nat) (mct : Nat) (mp : Nat) (mnm : Nat) (m1 : Nat) (m2 : Nat) (mt : Nat) (mk : Nat) (mr : Nat) (ml : Nat) (mq : Nat) (k1 : ClassId) (k2 : ClassId) (th : Int32) (n : Nat) (om : Int32) (tm : Int32) (wd : Nat → Nat) (ct : Nat → Nat) (x9 : Int32) (hnd : ([mo] ++ [mw, mct]).Nodup) (hn40 : n ≤ 40) (hgw : ∀ k, k < n → gw (wd k)) (hcb : ∀ k, k < n → ct k < 2 ^ 31) : Met l yX10_wordAt wsX10_wordAt { frames := 2, cells := 0, slots := 0, locals := 52 } (va_Pc [.ref mo, .int x9] (qW D sz ([(mw, .inl (k1, 40, .inr (.inl (fun k9 => lN (wd k9))))), (mct, .inl (k2, 40, .inl (fun k9 => nI (ct k9))))]) [(mo, .inr (9, [.int th, .int (nI n), .ref mw, .ref mct, .ref mp, .ref mnm, .ref m1, .ref m2, .int om, .int tm, .ref mt, .ref mk, .ref mr, .ref ml, .ref mq]))] [(k1, .long), (k2, .int)])) (va_Ql (fun (rv : Int64) (uv : (Int32)) => uv = nI (if 0 ≤ x9 ∧ x9 < nI (knn ct n) then 0 else 1) ∧ (0 ≤ x9 ∧ x9 < nI (knn ct n) → rv = lN (lwd (fun k => decide (0 < ct k ∧ cnt (fun j => decide (0 < ct j ∧ al (wd j) < al (wd k))) n = kz x9)) wd n))) (fun (uv : (Int32)) (tv : State) => va_P D vwCl [(mo, .inr (9, [.int uv, .int (nI n), .ref mw, .ref mct, .ref mp, .ref mnm, .ref m1, .ref m2, .int om, .int tm, .ref mt, .ref mk, .ref mr, .ref ml, .ref mq]))] tv.heap) (va_A [(mo, .inr (9, [.int th, .int (nI n), .ref mw, .ref mct, .ref mp, .ref mnm, .ref m1, .ref m2, .int om, .int tm, .ref mt, .ref mk, .ref mr, .ref ml, .ref mq]))] sz)) 0 0 (va_A [(mo, .inr (9, [.int th, .int (nI n), .ref mw, .ref mct, .ref mp, .ref mnm, .ref m1, .ref m2, .int om, .int tm, .ref mt, .ref mk, .ref mr, .ref ml, .ref mq]))] sz) := by
  refine Met.ofW (cc := cX10_wordAt) (maxL := 7) (ret := (some .long)) (by decide) rfl ?_
  intro pM eM s mi9 argsM belowM methM cM sM B hml hv
  obtain ⟨rfl, hsz, hR0, hP, hK, hNw⟩ := hv
  have hx := B.exec
  have hb := B.bytes
  have hr := B.returns
  have hts := atoms_spec (ws := wsX10_wordAt) B.pre
  have hown : s.vm.findClass RX10 = some mi9.cls := findClass_of_methodNamed B.named
  have hlocks := B.notSynchronized
  subst hsz
  have hna := q_na (RW := [(mo, .inr (9, [.int th, .int (nI n), .ref mw, .ref mct, .ref mp, .ref mnm, .ref m1, .ref m2, .int om, .int tm, .ref mt, .ref mk, .ref mr, .ref ml, .ref mq]))]) (RO := [(mw, .inl (k1, 40, .inr (.inl (fun k9 => lN (wd k9))))), (mct, .inl (k2, 40, .inl (fun k9 => nI (ct k9))))]) hnd rfl rfl hR0
  have hD := q_D (RW := [(mo, .inr (9, [.int th, .int (nI n), .ref mw, .ref mct, .ref mp, .ref mnm, .ref m1, .ref m2, .int om, .int tm, .ref mt, .ref mk, .ref mr, .ref ml, .ref mq]))]) (sz := s.heap.size) hnd rfl
  have hA : ∀ q : Nat, s.heap.size ≤ q → va_A [(mo, .inr (9, [.int th, .int (nI n), .ref mw, .ref mct, .ref mp, .ref mnm, .ref m1, .ref m2, .int om, .int tm, .ref mt, .ref mk, .ref mr, .ref ml, .ref mq]))] s.heap.size q := fun q h => Or.inr h
  generalize hAe : va_A [(mo, .inr (9, [.int th, .int (nI n), .ref mw, .ref mct, .ref mp, .ref mnm, .ref m1, .ref m2, .int om, .int tm, .ref mt, .ref mk, .ref mr, .ref ml, .ref mq]))] s.heap.size = A at hna hD hA ⊢
  have hS : va_S A s.heap s.heap [] := va_S.rf
  have hR := hR0
  have hP : va_P D vwCl [(mo, .inr (9, [.int th, .int (nI n), .ref mw, .ref mct, .ref mp, .ref mnm, .ref m1, .ref m2, .int om, .int tm, .ref mt, .ref mk, .ref mr, .ref ml, .ref mq]))] s.heap := hP
  have hl := lv_entry ([.ref mo, .int x9]) (n := 7) (Nat.le_of_ble_eq_true rfl)
  rw [lg_entry_eq]
  generalize (lg_sl ([.ref mo, .int x9]) ++ List.replicate (7 - (lg_sl ([.ref mo, .int x9])).length) Slot.unset).toArray = ls at hl ⊢
  have hl : lv_has ls 7 [(0, .ref mo), (1, .int x9)] := hl
  refine lv_aload_n hx hb dX10_wordAt_0 rfl (lv_at hl 0 rfl) ?_
  refine lv_iload_n hx hb dX10_wordAt_1 rfl (lv_at hl 1 rfl) ?_
  refine lv_if_lt (tgt := 17) hx hb dX10_wordAt_2 (by decide) (fun c_2 => ?_) (fun c_2 => ?_)
  · skip
    refine lv_iconst (v := nI 1) hx hb dX10_wordAt_17 (by decide) ?_
    have hF := va_free (wc := [(mo, .inr (9, [.int th, .int (nI n), .ref mw, .ref mct, .ref mp, .ref mnm, .ref m1, .ref m2, .int om, .int tm, .ref mt, .ref mk, .ref mr, .ref ml, .ref mq]))]) hD hS hA [0] rfl
    refine va_calli (va_runV (As := [.int (nI 1)]) (rest := []) ⟨hx, hb, hml, hown, hts⟩ (c_X10_goesWell (l := l) (D := D) (mo := mo) (mw := mw) (mct := mct) (mp := mp) (mnm := mnm) (m1 := m1) (m2 := m2) (mt := mt) (mk := mk) (mr := mr) (ml := ml) (mq := mq) (th := th) (n := n) (om := om) (tm := tm) (x9 := 1) (sz := s.heap.size) (hnd := (q_nds hnd [0] rfl rfl)) (hx9 := by omega)) (cwV 1 hts gX10_wordAt_X10_goesWell rfl rfl rfl (by decide +kernel) ⟨Nat.le_of_ble_eq_true rfl, Nat.le_of_ble_eq_true rfl⟩) ⟨qW_blind, (va_recv hK hP (ci := 9) (q0 := 0) rfl rfl), (qW_of (q_Pof (fun _ h => absurd h List.not_mem_nil)) (hP.sub (ws' := [(mo, .inr (9, [.int th, .int (nI n), .ref mw, .ref mct, .ref mp, .ref mnm, .ref m1, .ref m2, .int om, .int tm, .ref mt, .ref mk, .ref mr, .ref ml, .ref mq]))]) [0] rfl) (hK.sub (tys' := []) [] rfl) hNw)⟩ rfl rfl hl.1 rfl (lv_room (Nat.le_of_ble_eq_true rfl)) dX10_wordAt_18 ⟨Nat.le_of_ble_eq_true rfl, Nat.le_of_ble_eq_true rfl⟩) hS (fun q _ h => hF q h) hF (fun r_1 u_5 t_4 H_2 locs_3 ht hvm hr_1 hB hz1 hk1 hS => ?_)
    replace hB : va_P D vwCl [(mo, .inr (9, [.int (nI 1), .int (nI n), .ref mw, .ref mct, .ref mp, .ref mnm, .ref m1, .ref m2, .int om, .int tm, .ref mt, .ref mk, .ref mr, .ref ml, .ref mq]))] H_2 := by rw [← ht]; exact hB
    obtain ⟨hP, hD⟩ := q_join (wc := [(mo, .inr (9, [.int th, .int (nI n), .ref mw, .ref mct, .ref mp, .ref mnm, .ref m1, .ref m2, .int om, .int tm, .ref mt, .ref mk, .ref mr, .ref ml, .ref mq]))]) (w1 := [(mo, .inr (9, [.int (nI 1), .int (nI n), .ref mw, .ref mct, .ref mp, .ref mnm, .ref m1, .ref m2, .int om, .int tm, .ref mt, .ref mk, .ref mr, .ref ml, .ref mq]))]) (ws' := [(mo, .inr (9, [.int (nI 1), .int (nI n), .ref mw, .ref mct, .ref mp, .ref mnm, .ref m1, .ref m2, .int om, .int tm, .ref mt, .ref mk, .ref mr, .ref ml, .ref mq]))]) [0] hP hD rfl rfl hk1 hB rfl
    have hR := q_ro hR0 hna hS
    subst hr_1
    refine q_ifb_ne (tgt := 26) hx hb dX10_wordAt_21 (by decide) (fun c9 => absurd c9 (by decide)) (fun _ => ?_)
    refine lv_lconst (v := lN 0) hx hb dX10_wordAt_24 (by decide) ?_
    have hno : ¬ (0 ≤ x9 ∧ x9 < nI (knn ct n)) := fun h9 => by have h8 := c_2; rw [Int32.lt_iff_toInt_lt] at h8; have h7 := h9.1; rw [Int32.le_iff_toInt_le] at h7; omega
    exact W.lret (v := lN 0) hx hb hr (fun t9 ht hW => ⟨⟨lN 0, nI 1, rfl, ⟨(by rw [if_neg hno]), (fun h9 => absurd h9 hno)⟩, by show va_P D vwCl _ t9.heap; rw [ht]; exact hP⟩, hS.F ht⟩) hS.2.2 dX10_wordAt_25
  · skip
    refine lv_iload_n hx hb dX10_wordAt_5 rfl (lv_at hl 1 rfl) ?_
    refine lv_aload_n hx hb dX10_wordAt_6 rfl (lv_at hl 0 rfl) ?_
    refine vp_callSi (W.runV (As := []) (rest := [.int x9, .ref mo]) ⟨hx, hb, hml, hown, hts⟩ (c_X10_known (l := l) (D := D) (mo := mo) (mw := mw) (mct := mct) (mp := mp) (mnm := mnm) (m1 := m1) (m2 := m2) (mt := mt) (mk := mk) (mr := mr) (ml := ml) (mq := mq) (k2 := k2) (th := th) (n := n) (om := om) (tm := tm) (ct := ct) (hn40 := hn40) (hcb := hcb)) (cwV 0 hts gX10_wordAt_X10_known rfl rfl rfl (by decide +kernel) ⟨Nat.le_of_ble_eq_true rfl, Nat.le_of_ble_eq_true rfl⟩) ⟨qP_blind, (va_recv hK hP (ci := 9) (q0 := 0) rfl rfl), (qP_of (show va_P D vwCl [(mo, .inr (9, [.int th, .int (nI n), .ref mw, .ref mct, .ref mp, .ref mnm, .ref m1, .ref m2, .int om, .int tm, .ref mt, .ref mk, .ref mr, .ref ml, .ref mq])), (mct, .inl (k2, 40, .inl (fun k9 => nI (ct k9))))] _ from (va_P.app (hP.sub (ws' := [(mo, .inr (9, [.int th, .int (nI n), .ref mw, .ref mct, .ref mp, .ref mnm, .ref m1, .ref m2, .int om, .int tm, .ref mt, .ref mk, .ref mr, .ref ml, .ref mq]))]) [0] rfl) (hR.sub (ws' := [(mct, .inl (k2, 40, .inl (fun k9 => nI (ct k9))))]) [1] rfl))) (hK.sub (tys' := [(k2, .int)]) [1] rfl) hNw)⟩ rfl rfl hl.1 rfl (lv_room (Nat.le_of_ble_eq_true rfl)) dX10_wordAt_7 ⟨Nat.le_of_ble_eq_true rfl, Nat.le_of_ble_eq_true rfl⟩) (fun r_6 hr_6 => ?_)
    subst hr_6
    refine lv_icmp_ge (tgt := 17) hx hb dX10_wordAt_10 (by decide) (fun c_10 => ?_) (fun c_10 => ?_)
    · skip
      refine lv_iconst (v := nI 1) hx hb dX10_wordAt_17 (by decide) ?_
      have hF := va_free (wc := [(mo, .inr (9, [.int th, .int (nI n), .ref mw, .ref mct, .ref mp, .ref mnm, .ref m1, .ref m2, .int om, .int tm, .ref mt, .ref mk, .ref mr, .ref ml, .ref mq]))]) hD hS hA [0] rfl
      refine va_calli (va_runV (As := [.int (nI 1)]) (rest := []) ⟨hx, hb, hml, hown, hts⟩ (c_X10_goesWell (l := l) (D := D) (mo := mo) (mw := mw) (mct := mct) (mp := mp) (mnm := mnm) (m1 := m1) (m2 := m2) (mt := mt) (mk := mk) (mr := mr) (ml := ml) (mq := mq) (th := th) (n := n) (om := om) (tm := tm) (x9 := 1) (sz := s.heap.size) (hnd := (q_nds hnd [0] rfl rfl)) (hx9 := by omega)) (cwV 1 hts gX10_wordAt_X10_goesWell rfl rfl rfl (by decide +kernel) ⟨Nat.le_of_ble_eq_true rfl, Nat.le_of_ble_eq_true rfl⟩) ⟨qW_blind, (va_recv hK hP (ci := 9) (q0 := 0) rfl rfl), (qW_of (q_Pof (fun _ h => absurd h List.not_mem_nil)) (hP.sub (ws' := [(mo, .inr (9, [.int th, .int (nI n), .ref mw, .ref mct, .ref mp, .ref mnm, .ref m1, .ref m2, .int om, .int tm, .ref mt, .ref mk, .ref mr, .ref ml, .ref mq]))]) [0] rfl) (hK.sub (tys' := []) [] rfl) hNw)⟩ rfl rfl hl.1 rfl (lv_room (Nat.le_of_ble_eq_true rfl)) dX10_wordAt_18 ⟨Nat.le_of_ble_eq_true rfl, Nat.le_of_ble_eq_true rfl⟩) hS (fun q _ h => hF q h) hF (fun r_7 u_11 t_10 H_8 locs_9 ht hvm hr_7 hB hz1 hk1 hS => ?_)
      replace hB : va_P D vwCl [(mo, .inr (9, [.int (nI 1), .int (nI n), .ref mw, .ref mct, .ref mp, .ref mnm, .ref m1, .ref m2, .int om, .int tm, .ref mt, .ref mk, .ref mr, .ref ml, .ref mq]))] H_8 := by rw [← ht]; exact hB
      obtain ⟨hP, hD⟩ := q_join (wc := [(mo, .inr (9, [.int th, .int (nI n), .ref mw, .ref mct, .ref mp, .ref mnm, .ref m1, .ref m2, .int om, .int tm, .ref mt, .ref mk, .ref mr, .ref ml, .ref mq]))]) (w1 := [(mo, .inr (9, [.int (nI 1), .int (nI n), .ref mw, .ref mct, .ref mp, .ref mnm, .ref m1, .ref m2, .int om, .int tm, .ref mt, .ref mk, .ref mr, .ref ml, .ref mq]))]) (ws' := [(mo, .inr (9, [.int (nI 1), .int (nI n), .ref mw, .ref mct, .ref mp, .ref mnm, .ref m1, .ref m2, .int om, .int tm, .ref mt, .ref mk, .ref mr, .ref ml, .ref mq]))]) [0] hP hD rfl rfl hk1 hB rfl
      have hR := q_ro hR0 hna hS
      subst hr_7
      refine q_ifb_ne (tgt := 26) hx hb dX10_wordAt_21 (by decide) (fun c9 => absurd c9 (by decide)) (fun _ => ?_)
      refine lv_lconst (v := lN 0) hx hb dX10_wordAt_24 (by decide) ?_
      have hno : ¬ (0 ≤ x9 ∧ x9 < nI (knn ct n)) := fun h9 => by have h8 := c_10; rw [Int32.le_iff_toInt_le] at h8; have h7 := h9.2; rw [Int32.lt_iff_toInt_lt] at h7; omega
      exact W.lret (v := lN 0) hx hb hr (fun t9 ht hW => ⟨⟨lN 0, nI 1, rfl, ⟨(by rw [if_neg hno]), (fun h9 => absurd h9 hno)⟩, by show va_P D vwCl _ t9.heap; rw [ht]; exact hP⟩, hS.F ht⟩) hS.2.2 dX10_wordAt_25
    · skip
      refine lv_iconst (v := nI 0) hx hb dX10_wordAt_13 (by decide) ?_
      refine lv_goto (tgt := 18) hx hb dX10_wordAt_14 (by decide) ?_
      have hF := va_free (wc := [(mo, .inr (9, [.int th, .int (nI n), .ref mw, .ref mct, .ref mp, .ref mnm, .ref m1, .ref m2, .int om, .int tm, .ref mt, .ref mk, .ref mr, .ref ml, .ref mq]))]) hD hS hA [0] rfl
      refine va_calli (va_runV (As := [.int (nI 0)]) (rest := []) ⟨hx, hb, hml, hown, hts⟩ (c_X10_goesWell (l := l) (D := D) (mo := mo) (mw := mw) (mct := mct) (mp := mp) (mnm := mnm) (m1 := m1) (m2 := m2) (mt := mt) (mk := mk) (mr := mr) (ml := ml) (mq := mq) (th := th) (n := n) (om := om) (tm := tm) (x9 := 0) (sz := s.heap.size) (hnd := (q_nds hnd [0] rfl rfl)) (hx9 := by omega)) (cwV 1 hts gX10_wordAt_X10_goesWell rfl rfl rfl (by decide +kernel) ⟨Nat.le_of_ble_eq_true rfl, Nat.le_of_ble_eq_true rfl⟩) ⟨qW_blind, (va_recv hK hP (ci := 9) (q0 := 0) rfl rfl), (qW_of (q_Pof (fun _ h => absurd h List.not_mem_nil)) (hP.sub (ws' := [(mo, .inr (9, [.int th, .int (nI n), .ref mw, .ref mct, .ref mp, .ref mnm, .ref m1, .ref m2, .int om, .int tm, .ref mt, .ref mk, .ref mr, .ref ml, .ref mq]))]) [0] rfl) (hK.sub (tys' := []) [] rfl) hNw)⟩ rfl rfl hl.1 rfl (lv_room (Nat.le_of_ble_eq_true rfl)) dX10_wordAt_18 ⟨Nat.le_of_ble_eq_true rfl, Nat.le_of_ble_eq_true rfl⟩) hS (fun q _ h => hF q h) hF (fun r_12 u_16 t_15 H_13 locs_14 ht hvm hr_12 hB hz1 hk1 hS => ?_)
      replace hB : va_P D vwCl [(mo, .inr (9, [.int (nI 0), .int (nI n), .ref mw, .ref mct, .ref mp, .ref mnm, .ref m1, .ref m2, .int om, .int tm, .ref mt, .ref mk, .ref mr, .ref ml, .ref mq]))] H_13 := by rw [← ht]; exact hB
      obtain ⟨hP, hD⟩ := q_join (wc := [(mo, .inr (9, [.int th, .int (nI n), .ref mw, .ref mct, .ref mp, .ref mnm, .ref m1, .ref m2, .int om, .int tm, .ref mt, .ref mk, .ref mr, .ref ml, .ref mq]))]) (w1 := [(mo, .inr (9, [.int (nI 0), .int (nI n), .ref mw, .ref mct, .ref mp, .ref mnm, .ref m1, .ref m2, .int om, .int tm, .ref mt, .ref mk, .ref mr, .ref ml, .ref mq]))]) (ws' := [(mo, .inr (9, [.int (nI 0), .int (nI n), .ref mw, .ref mct, .ref mp, .ref mnm, .ref m1, .ref m2, .int om, .int tm, .ref mt, .ref mk, .ref mr, .ref ml, .ref mq]))]) [0] hP hD rfl rfl hk1 hB rfl
      have hR := q_ro hR0 hna hS
      subst hr_12
      refine q_ifb_ne (tgt := 26) hx hb dX10_wordAt_21 (by decide) (fun _ => ?_) (fun c9 => absurd (by decide) c9)
      have h0 : 0 ≤ x9 := by have h8 := c_2; rw [Int32.lt_iff_toInt_lt] at h8; rw [Int32.le_iff_toInt_le]; omega
      have hok : 0 ≤ x9 ∧ x9 < nI (knn ct n) := ⟨h0, by have h8 := c_10; rw [Int32.le_iff_toInt_le] at h8; rw [Int32.lt_iff_toInt_lt]; omega⟩
      have hkz := kz_31 x9
      have hl : lv_has ls 7 [(0, .ref mo), (1, .int (nI (kz x9)))] := (congrArg (fun v9 => lv_has ls 7 [(0, .ref mo), (1, .int v9)]) (kz_of h0)).mp hl
      refine lv_lconst (v := lN 0) hx hb dX10_wordAt_26 (by decide) ?_
      refine lv_lstore_n (lv' := [(2, .long (lN 0)), (0, .ref mo), (1, .int (nI (kz x9)))]) hx hb dX10_wordAt_27 rfl hl (by decide) rfl (fun ls hl => ?_)
      refine lv_iconst (v := nI 0) hx hb dX10_wordAt_28 (by decide) ?_
      refine lv_istore (lv' := [(4, .int (nI 0)), (2, .long (lN 0)), (0, .ref mo), (1, .int (nI (kz x9)))]) hx hb dX10_wordAt_29 hl (by decide) rfl (fun ls hl => ?_)
      refine q_loop (fun (x : (Nat)) (Hc : Heap) (Lc : List Loc) (ls : Array Slot) => match x with | i => (i ≤ n) ∧ H_13 = Hc ∧ locs_14 = Lc ∧ lv_has ls 7 [(4, .int (nI i)), (2, .long (lN (lwd (fun k => decide (0 < ct k ∧ cnt (fun j => decide (0 < ct j ∧ al (wd j) < al (wd k))) n = kz x9)) wd i))), (0, .ref mo), (1, .int (nI (kz x9)))]) (fun (x : (Nat)) => match x with | i => n - i) 0 ⟨(by omega), rfl, rfl, (lv_sub hl [0, 1, 2, 3] rfl)⟩ ?_
      clear hl
      rintro i Hc Lc ls hI ih_31
      obtain ⟨hi, rfl, rfl, hl⟩ := hI
      refine lv_iload hx hb dX10_wordAt_31 (lv_at hl 0 rfl) ?_
      refine lv_aload_n hx hb dX10_wordAt_33 rfl (lv_at hl 2 rfl) ?_
      refine va_get (D := D) (own := RX10) (ref := "FuzzyFensModel") (ci := 9) (v := .int (nI n)) (C := RX10) (T := TX10) (N := 15) hx hb hts iX10_wordAt_X10 hown hK hP 0 rfl rfl 1 (by decide) (hts (.fieldLink RX10 77 "FuzzyFensModel" "many" "I") (List.mem_of_getElem? (i := 1) rfl)) (fun _ h9 => h9) rfl dX10_wordAt_34 ?_
      refine q_icmp_ge (a := i) (b := n) (tgt := 135) hx hb dX10_wordAt_37 (by decide) (by omega) (by omega) (fun c_37 => ?_) (fun c_37 => ?_)
      · skip
        refine lv_lload_n hx hb dX10_wordAt_135 rfl (lv_at hl 1 rfl) ?_
        exact W.lret (v := lN (lwd (fun k => decide (0 < ct k ∧ cnt (fun j => decide (0 < ct j ∧ al (wd j) < al (wd k))) n = kz x9)) wd i)) hx hb hr (fun t9 ht hW => ⟨⟨lN (lwd (fun k => decide (0 < ct k ∧ cnt (fun j => decide (0 < ct j ∧ al (wd j) < al (wd k))) n = kz x9)) wd i), nI 0, rfl, ⟨(by rw [if_pos hok]), (fun _ => by rw [show n = i by omega])⟩, by show va_P D vwCl _ t9.heap; rw [ht]; exact hP⟩, hS.F ht⟩) hS.2.2 dX10_wordAt_136
      · skip
        refine lv_iconst (v := nI 0) hx hb dX10_wordAt_40 (by decide) ?_
        refine lv_istore (lv' := [(5, .int (nI 0)), (4, .int (nI i)), (2, .long (lN (lwd (fun k => decide (0 < ct k ∧ cnt (fun j => decide (0 < ct j ∧ al (wd j) < al (wd k))) n = kz x9)) wd i))), (0, .ref mo), (1, .int (nI (kz x9)))]) hx hb dX10_wordAt_41 hl (by decide) rfl (fun ls hl => ?_)
        refine lv_iconst (v := nI 0) hx hb dX10_wordAt_43 (by decide) ?_
        refine lv_istore (lv' := [(6, .int (nI 0)), (5, .int (nI 0)), (4, .int (nI i)), (2, .long (lN (lwd (fun k => decide (0 < ct k ∧ cnt (fun j => decide (0 < ct j ∧ al (wd j) < al (wd k))) n = kz x9)) wd i))), (0, .ref mo), (1, .int (nI (kz x9)))]) hx hb dX10_wordAt_44 hl (by decide) rfl (fun ls hl => ?_)
        refine q_loop (fun (x : (Nat)) (Hc : Heap) (Lc : List Loc) (ls : Array Slot) => match x with | j => (j ≤ n) ∧ H_13 = Hc ∧ locs_14 = Lc ∧ lv_has ls 7 [(6, .int (nI j)), (5, .int (nI (cnt (fun j => decide (0 < ct j ∧ al (wd j) < al (wd i))) j))), (4, .int (nI i)), (2, .long (lN (lwd (fun k => decide (0 < ct k ∧ cnt (fun j => decide (0 < ct j ∧ al (wd j) < al (wd k))) n = kz x9)) wd i))), (0, .ref mo), (1, .int (nI (kz x9)))]) (fun (x : (Nat)) => match x with | j => n - j) 0 ⟨(by omega), rfl, rfl, (lv_sub hl [0, 1, 2, 3, 4, 5] rfl)⟩ ?_
        clear hl
        rintro j Hc Lc ls hI ih_46
        obtain ⟨hj, rfl, rfl, hl⟩ := hI
        refine lv_iload hx hb dX10_wordAt_46 (lv_at hl 0 rfl) ?_
        refine lv_aload_n hx hb dX10_wordAt_48 rfl (lv_at hl 4 rfl) ?_
        refine va_get (D := D) (own := RX10) (ref := "FuzzyFensModel") (ci := 9) (v := .int (nI n)) (C := RX10) (T := TX10) (N := 15) hx hb hts iX10_wordAt_X10 hown hK hP 0 rfl rfl 1 (by decide) (hts (.fieldLink RX10 77 "FuzzyFensModel" "many" "I") (List.mem_of_getElem? (i := 1) rfl)) (fun _ h9 => h9) rfl dX10_wordAt_49 ?_
        refine q_icmp_ge (a := j) (b := n) (tgt := 101) hx hb dX10_wordAt_52 (by decide) (by omega) (by omega) (fun c_52 => ?_) (fun c_52 => ?_)
        · skip
          have ejn : j = n := by omega
          have hcl := cnt_le (fun j => decide (0 < ct j ∧ al (wd j) < al (wd i))) j
          refine lv_aload_n hx hb dX10_wordAt_101 rfl (lv_at hl 4 rfl) ?_
          refine va_get (D := D) (own := RX10) (ref := "FuzzyFensModel") (ci := 9) (v := .ref mct) (C := RX10) (T := TX10) (N := 15) hx hb hts iX10_wordAt_X10 hown hK hP 0 rfl rfl 3 (by decide) (hts (.fieldLink RX10 13 "FuzzyFensModel" "counts" "[I") (List.mem_of_getElem? (i := 2) rfl)) (fun _ h9 => h9) rfl dX10_wordAt_102 ?_
          refine lv_iload hx hb dX10_wordAt_105 (lv_at hl 2 rfl) ?_
          refine va_iald (D := D) hx hb hK hR 1 1 rfl rfl (vp_in_nI (n := i) (N := 40) (by omega) (by decide)) dX10_wordAt_107 ?_
          rw [nI_clamp (n := i) (by omega)]
          refine q_cvi (show (fun k9 => nI (ct k9)) i = nI (ct i) from rfl) ?_
          refine q_cut 128 (fun (x : (Nat)) (Hc : Heap) (Lc : List Loc) (ls : Array Slot) (st : List Value) => match x with | z2 => (z2 = lwd (fun k => decide (0 < ct k ∧ cnt (fun j => decide (0 < ct j ∧ al (wd j) < al (wd k))) n = kz x9)) wd (i + 1)) ∧ H_13 = Hc ∧ locs_14 = Lc ∧ lv_has ls 7 [(6, .int (nI j)), (5, .int (nI (cnt (fun j => decide (0 < ct j ∧ al (wd j) < al (wd i))) j))), (4, .int (nI i)), (2, .long (lN (lwd (fun k => decide (0 < ct k ∧ cnt (fun j => decide (0 < ct j ∧ al (wd j) < al (wd k))) n = kz x9)) wd i))), (0, .ref mo), (1, .int (nI (kz x9)))] ∧ [.long (lN z2)] = st) ?_ ?_
          · clear hl
            rintro z2 Hc Lc ls st hI
            obtain ⟨hz2, rfl, rfl, hl, rfl⟩ := hI
            refine lv_lstore_n (lv' := [(2, .long (lN z2)), (6, .int (nI j)), (5, .int (nI (cnt (fun j => decide (0 < ct j ∧ al (wd j) < al (wd i))) j))), (4, .int (nI i)), (0, .ref mo), (1, .int (nI (kz x9)))]) hx hb dX10_wordAt_128 rfl hl (by decide) rfl (fun ls hl => ?_)
            refine lv_iinc (v := nI (i + 1)) (lv' := [(4, .int (nI (i + 1))), (2, .long (lN z2)), (6, .int (nI j)), (5, .int (nI (cnt (fun j => decide (0 < ct j ∧ al (wd j) < al (wd i))) j))), (0, .ref mo), (1, .int (nI (kz x9)))]) hx hb dX10_wordAt_129 hl (k := 3) rfl (q_inc (k := 1) (by omega)) (by decide) rfl (fun ls hl => ?_)
            refine lv_goto (tgt := 31) hx hb dX10_wordAt_132 (by decide) ?_
            rw [hz2] at hl
            exact ih_31 (i + 1) _ _ _ ⟨(by omega), rfl, rfl, (lv_sub hl [0, 1, 4, 5] rfl)⟩ (by show n - (i + 1) < n - i; omega)
          · intro hcut_128
            refine q_if_le (a := ct i) (tgt := 127) hx hb dX10_wordAt_108 (by decide) (hcb i (by omega)) (fun c_108 => ?_) (fun c_108 => ?_)
            · skip
              refine lv_lload_n hx hb dX10_wordAt_127 rfl (lv_at hl 3 rfl) ?_
              exact hcut_128 (lwd (fun k => decide (0 < ct k ∧ cnt (fun j => decide (0 < ct j ∧ al (wd j) < al (wd k))) n = kz x9)) wd i) _ _ _ _ ⟨(if_neg (by simp only [decide_eq_true_eq]; omega)).symm, rfl, rfl, (lv_sub hl [0, 1, 2, 3, 4, 5] rfl), rfl⟩
            · skip
              refine lv_iload hx hb dX10_wordAt_111 (lv_at hl 1 rfl) ?_
              refine lv_iload_n hx hb dX10_wordAt_113 rfl (lv_at hl 5 rfl) ?_
              refine q_icmp_ne (a := cnt (fun j => decide (0 < ct j ∧ al (wd j) < al (wd i))) j) (b := kz x9) (tgt := 127) hx hb dX10_wordAt_114 (by decide) (by omega) (by omega) (fun c_114 => ?_) (fun c_114 => ?_)
              · skip
                refine lv_lload_n hx hb dX10_wordAt_127 rfl (lv_at hl 3 rfl) ?_
                exact hcut_128 (lwd (fun k => decide (0 < ct k ∧ cnt (fun j => decide (0 < ct j ∧ al (wd j) < al (wd k))) n = kz x9)) wd i) _ _ _ _ ⟨(if_neg (by simp only [decide_eq_true_eq]; rw [← ejn]; omega)).symm, rfl, rfl, (lv_sub hl [0, 1, 2, 3, 4, 5] rfl), rfl⟩
              · skip
                refine lv_aload_n hx hb dX10_wordAt_117 rfl (lv_at hl 4 rfl) ?_
                refine va_get (D := D) (own := RX10) (ref := "FuzzyFensModel") (ci := 9) (v := .ref mw) (C := RX10) (T := TX10) (N := 15) hx hb hts iX10_wordAt_X10 hown hK hP 0 rfl rfl 2 (by decide) (hts (.fieldLink RX10 7 "FuzzyFensModel" "words" "[J") (List.mem_of_getElem? (i := 3) rfl)) (fun _ h9 => h9) rfl dX10_wordAt_118 ?_
                refine lv_iload hx hb dX10_wordAt_121 (lv_at hl 2 rfl) ?_
                refine va_lald (D := D) hx hb hK hR 0 0 rfl rfl (vp_in_nI (n := i) (N := 40) (by omega) (by decide)) dX10_wordAt_123 ?_
                rw [nI_clamp (n := i) (by omega)]
                refine q_cvl (show (fun k9 => lN (wd k9)) i = lN (wd i) from rfl) ?_
                refine lv_goto (tgt := 128) hx hb dX10_wordAt_124 (by decide) ?_
                exact hcut_128 (wd i) _ _ _ _ ⟨(if_pos (by simp only [decide_eq_true_eq]; rw [← ejn]; omega)).symm, rfl, rfl, (lv_sub hl [0, 1, 2, 3, 4, 5] rfl), rfl⟩
        · skip
          refine lv_iload hx hb dX10_wordAt_55 (lv_at hl 1 rfl) ?_
          refine lv_aload_n hx hb dX10_wordAt_57 rfl (lv_at hl 4 rfl) ?_
          refine va_get (D := D) (own := RX10) (ref := "FuzzyFensModel") (ci := 9) (v := .ref mct) (C := RX10) (T := TX10) (N := 15) hx hb hts iX10_wordAt_X10 hown hK hP 0 rfl rfl 3 (by decide) (hts (.fieldLink RX10 13 "FuzzyFensModel" "counts" "[I") (List.mem_of_getElem? (i := 2) rfl)) (fun _ h9 => h9) rfl dX10_wordAt_58 ?_
          refine lv_iload hx hb dX10_wordAt_61 (lv_at hl 0 rfl) ?_
          refine va_iald (D := D) hx hb hK hR 1 1 rfl rfl (vp_in_nI (n := j) (N := 40) (by omega) (by decide)) dX10_wordAt_63 ?_
          rw [nI_clamp (n := j) (by omega)]
          refine q_cvi (show (fun k9 => nI (ct k9)) j = nI (ct j) from rfl) ?_
          refine q_cut 92 (fun (x : (Nat)) (Hc : Heap) (Lc : List Loc) (ls : Array Slot) (st : List Value) => match x with | z => (cnt (fun j => decide (0 < ct j ∧ al (wd j) < al (wd i))) j + z = cnt (fun j => decide (0 < ct j ∧ al (wd j) < al (wd i))) (j + 1)) ∧ H_13 = Hc ∧ locs_14 = Lc ∧ lv_has ls 7 [(6, .int (nI j)), (5, .int (nI (cnt (fun j => decide (0 < ct j ∧ al (wd j) < al (wd i))) j))), (4, .int (nI i)), (2, .long (lN (lwd (fun k => decide (0 < ct k ∧ cnt (fun j => decide (0 < ct j ∧ al (wd j) < al (wd k))) n = kz x9)) wd i))), (0, .ref mo), (1, .int (nI (kz x9)))] ∧ [.int (nI z), .int (nI (cnt (fun j => decide (0 < ct j ∧ al (wd j) < al (wd i))) j))] = st) ?_ ?_
          · clear hl
            rintro z Hc Lc ls st hI
            obtain ⟨hz, rfl, rfl, hl, rfl⟩ := hI
            refine q_iadd (d := cnt (fun j => decide (0 < ct j ∧ al (wd j) < al (wd i))) j + z) hx hb dX10_wordAt_92 (by omega) ?_
            refine q_cvi (show (nI (cnt (fun j => decide (0 < ct j ∧ al (wd j) < al (wd i))) j + z)) = (nI (cnt (fun j => decide (0 < ct j ∧ al (wd j) < al (wd i))) (j + 1))) from (by rw [hz])) ?_
            refine lv_istore (lv' := [(5, .int (nI (cnt (fun j => decide (0 < ct j ∧ al (wd j) < al (wd i))) (j + 1)))), (6, .int (nI j)), (4, .int (nI i)), (2, .long (lN (lwd (fun k => decide (0 < ct k ∧ cnt (fun j => decide (0 < ct j ∧ al (wd j) < al (wd k))) n = kz x9)) wd i))), (0, .ref mo), (1, .int (nI (kz x9)))]) hx hb dX10_wordAt_93 hl (by decide) rfl (fun ls hl => ?_)
            refine lv_iinc (v := nI (j + 1)) (lv' := [(6, .int (nI (j + 1))), (5, .int (nI (cnt (fun j => decide (0 < ct j ∧ al (wd j) < al (wd i))) (j + 1)))), (4, .int (nI i)), (2, .long (lN (lwd (fun k => decide (0 < ct k ∧ cnt (fun j => decide (0 < ct j ∧ al (wd j) < al (wd k))) n = kz x9)) wd i))), (0, .ref mo), (1, .int (nI (kz x9)))]) hx hb dX10_wordAt_95 hl (k := 1) rfl (q_inc (k := 1) (by omega)) (by decide) rfl (fun ls hl => ?_)
            refine lv_goto (tgt := 46) hx hb dX10_wordAt_98 (by decide) ?_
            exact ih_46 (j + 1) _ _ _ ⟨(by omega), rfl, rfl, (lv_sub hl [0, 1, 2, 3, 4, 5] rfl)⟩ (by show n - (j + 1) < n - j; omega)
          · intro hcut_92
            refine q_if_le (a := ct j) (tgt := 91) hx hb dX10_wordAt_64 (by decide) (hcb j (by omega)) (fun c_64 => ?_) (fun c_64 => ?_)
            · skip
              refine lv_iconst (v := nI 0) hx hb dX10_wordAt_91 (by decide) ?_
              exact hcut_92 0 _ _ _ _ ⟨(cnt_f (by simp only [decide_eq_true_eq]; omega)).symm, rfl, rfl, (lv_sub hl [0, 1, 2, 3, 4, 5] rfl), rfl⟩
            · skip
              refine lv_aload_n hx hb dX10_wordAt_67 rfl (lv_at hl 4 rfl) ?_
              refine va_get (D := D) (own := RX10) (ref := "FuzzyFensModel") (ci := 9) (v := .ref mw) (C := RX10) (T := TX10) (N := 15) hx hb hts iX10_wordAt_X10 hown hK hP 0 rfl rfl 2 (by decide) (hts (.fieldLink RX10 7 "FuzzyFensModel" "words" "[J") (List.mem_of_getElem? (i := 3) rfl)) (fun _ h9 => h9) rfl dX10_wordAt_68 ?_
              refine lv_iload hx hb dX10_wordAt_71 (lv_at hl 0 rfl) ?_
              refine va_lald (D := D) hx hb hK hR 0 0 rfl rfl (vp_in_nI (n := j) (N := 40) (by omega) (by decide)) dX10_wordAt_73 ?_
              rw [nI_clamp (n := j) (by omega)]
              refine q_cvl (show (fun k9 => lN (wd k9)) j = lN (wd j) from rfl) ?_
              refine lv_aload_n hx hb dX10_wordAt_74 rfl (lv_at hl 4 rfl) ?_
              refine va_get (D := D) (own := RX10) (ref := "FuzzyFensModel") (ci := 9) (v := .ref mw) (C := RX10) (T := TX10) (N := 15) hx hb hts iX10_wordAt_X10 hown hK hP 0 rfl rfl 2 (by decide) (hts (.fieldLink RX10 7 "FuzzyFensModel" "words" "[J") (List.mem_of_getElem? (i := 3) rfl)) (fun _ h9 => h9) rfl dX10_wordAt_75 ?_
              refine lv_iload hx hb dX10_wordAt_78 (lv_at hl 2 rfl) ?_
              refine va_lald (D := D) hx hb hK hR 0 0 rfl rfl (vp_in_nI (n := i) (N := 40) (by omega) (by decide)) dX10_wordAt_80 ?_
              rw [nI_clamp (n := i) (by omega)]
              refine q_cvl (show (fun k9 => lN (wd k9)) i = lN (wd i) from rfl) ?_
              refine vp_callSi (W.runS (As := [.long (lN (wd j)), .long (lN (wd i))]) (rest := [.int (nI (cnt (fun j => decide (0 < ct j ∧ al (wd j) < al (wd i))) j))]) ⟨hx, hb, hml, hown, hts⟩ (c_X10_isAhead (l := l) (D := D) (a := wd j) (b := wd i) (ha := hgw j (by omega)) (hb9 := hgw i (by omega))) (va_cwS 2 hts gX10_wordAt_X10_isAhead rfl rfl rfl (by decide +kernel) ⟨Nat.le_of_ble_eq_true rfl, Nat.le_of_ble_eq_true rfl⟩) ⟨qP_blind, (qP_of (q_Pof (fun _ h => absurd h List.not_mem_nil)) (hK.sub (tys' := []) [] rfl) hNw)⟩ rfl rfl hl.1 rfl (lv_room (Nat.le_of_ble_eq_true rfl)) dX10_wordAt_81 ⟨Nat.le_of_ble_eq_true rfl, Nat.le_of_ble_eq_true rfl⟩) (fun r_17 hr_17 => ?_)
              subst hr_17
              refine q_ifb_eq (tgt := 91) hx hb dX10_wordAt_84 (by decide) (fun c_84 => ?_) (fun c_84 => ?_)
              · skip
                refine lv_iconst (v := nI 0) hx hb dX10_wordAt_91 (by decide) ?_
                exact hcut_92 0 _ _ _ _ ⟨(cnt_f (by simp only [decide_eq_true_eq]; omega)).symm, rfl, rfl, (lv_sub hl [0, 1, 2, 3, 4, 5] rfl), rfl⟩
              · skip
                refine lv_iconst (v := nI 1) hx hb dX10_wordAt_87 (by decide) ?_
                refine lv_goto (tgt := 92) hx hb dX10_wordAt_88 (by decide) ?_
                exact hcut_92 1 _ _ _ _ ⟨(cnt_t (by simp only [decide_eq_true_eq]; exact ⟨c_64, c_84⟩)).symm, rfl, rfl, (lv_sub hl [0, 1, 2, 3, 4, 5] rfl), rfl⟩

set_option maxRecDepth 20000 in
theorem iX10_isBetter_X10 : ∀ w ∈ wsX100, w ∈ wsX10_isBetter := by decide +kernel
set_option maxHeartbeats 4000000 in
set_option maxRecDepth 100000 in
/-- isBetter -/
theorem c_X10_isBetter (l : Launch) (D : va_G) (sz : Nat) (mo : Nat) (mw : Nat) (mct : Nat) (mp : Nat) (mnm : Nat) (m1 : Nat) (m2 : Nat) (mt : Nat) (mk : Nat) (mr : Nat) (ml : Nat) (mq : Nat) (k1 : ClassId) (k2 : ClassId) (k5 : ClassId) (k6 : ClassId) (k7 : ClassId) (k8 : ClassId) (th : Int32) (n : Nat) (om : Int32) (tm : Int32) (f1 : Nat → Int32) (f2 : Nat → Int32) (ft : Nat → Int32) (wd : Nat → Nat) (ct : Nat → Nat) (a : Nat) (i : Nat) (j : Nat) (hnd : ([mo, m1, m2, mt] ++ [mw, mct, mk]).Nodup) (hga : gw a) (hn40 : n ≤ 40) (hgw : ∀ k, k < n → gw (wd k)) (hcb : ∀ k, k < n → ct k < 2 ^ 31) (hi : i < n) (hj : j < n) : Met l yX10_isBetter wsX10_isBetter { frames := 3, cells := 0, slots := 0, locals := 77 } (va_Pc [.ref mo, .int (nI i), .int (nI j), .long (lN a)] (qW D sz ([(mw, .inl (k1, 40, .inr (.inl (fun k9 => lN (wd k9))))), (mct, .inl (k2, 40, .inl (fun k9 => nI (ct k9)))), (mk, .inl (k8, 27, .inl (fun k9 => nI (kyf k9))))]) [(mo, .inr (9, [.int th, .int (nI n), .ref mw, .ref mct, .ref mp, .ref mnm, .ref m1, .ref m2, .int om, .int tm, .ref mt, .ref mk, .ref mr, .ref ml, .ref mq])), (m1, .inl (k5, 11, .inl f1)), (m2, .inl (k6, 11, .inl f2)), (mt, .inl (k7, 121, .inl ft))] [(k5, .int), (k6, .int), (k7, .int), (k1, .long), (k2, .int), (k8, .int)])) (va_Qi (fun (rv : Int32) (uv : (Int32) × (Int32) × (Nat → Int32) × (Nat → Int32) × (Nat → Int32)) => rv = (if rkb (pzf wd a) ct wd i j then 1 else 0)) (fun (uv : (Int32) × (Int32) × (Nat → Int32) × (Nat → Int32) × (Nat → Int32)) (tv : State) => va_P D vwCl [(mo, .inr (9, [.int th, .int (nI n), .ref mw, .ref mct, .ref mp, .ref mnm, .ref m1, .ref m2, .int uv.1, .int uv.2.1, .ref mt, .ref mk, .ref mr, .ref ml, .ref mq])), (m1, .inl (k5, 11, .inl uv.2.2.1)), (m2, .inl (k6, 11, .inl uv.2.2.2.1)), (mt, .inl (k7, 121, .inl uv.2.2.2.2))] tv.heap) (va_A [(mo, .inr (9, [.int th, .int (nI n), .ref mw, .ref mct, .ref mp, .ref mnm, .ref m1, .ref m2, .int om, .int tm, .ref mt, .ref mk, .ref mr, .ref ml, .ref mq])), (m1, .inl (k5, 11, .inl f1)), (m2, .inl (k6, 11, .inl f2)), (mt, .inl (k7, 121, .inl ft))] sz)) 0 0 (va_A [(mo, .inr (9, [.int th, .int (nI n), .ref mw, .ref mct, .ref mp, .ref mnm, .ref m1, .ref m2, .int om, .int tm, .ref mt, .ref mk, .ref mr, .ref ml, .ref mq])), (m1, .inl (k5, 11, .inl f1)), (m2, .inl (k6, 11, .inl f2)), (mt, .inl (k7, 121, .inl ft))] sz) := by
  refine Met.ofW (cc := cX10_isBetter) (maxL := 7) (ret := (some .boolean)) (by decide) rfl ?_
  intro pM eM s mi9 argsM belowM methM cM sM B hml hv
  obtain ⟨rfl, hsz, hR0, hP, hK, hNw⟩ := hv
  have hx := B.exec
  have hb := B.bytes
  have hr := B.returns
  have hts := atoms_spec (ws := wsX10_isBetter) B.pre
  have hown : s.vm.findClass RX10 = some mi9.cls := findClass_of_methodNamed B.named
  have hlocks := B.notSynchronized
  subst hsz
  have hna := q_na (RW := [(mo, .inr (9, [.int th, .int (nI n), .ref mw, .ref mct, .ref mp, .ref mnm, .ref m1, .ref m2, .int om, .int tm, .ref mt, .ref mk, .ref mr, .ref ml, .ref mq])), (m1, .inl (k5, 11, .inl f1)), (m2, .inl (k6, 11, .inl f2)), (mt, .inl (k7, 121, .inl ft))]) (RO := [(mw, .inl (k1, 40, .inr (.inl (fun k9 => lN (wd k9))))), (mct, .inl (k2, 40, .inl (fun k9 => nI (ct k9)))), (mk, .inl (k8, 27, .inl (fun k9 => nI (kyf k9))))]) hnd rfl rfl hR0
  have hD := q_D (RW := [(mo, .inr (9, [.int th, .int (nI n), .ref mw, .ref mct, .ref mp, .ref mnm, .ref m1, .ref m2, .int om, .int tm, .ref mt, .ref mk, .ref mr, .ref ml, .ref mq])), (m1, .inl (k5, 11, .inl f1)), (m2, .inl (k6, 11, .inl f2)), (mt, .inl (k7, 121, .inl ft))]) (sz := s.heap.size) hnd rfl
  have hA : ∀ q : Nat, s.heap.size ≤ q → va_A [(mo, .inr (9, [.int th, .int (nI n), .ref mw, .ref mct, .ref mp, .ref mnm, .ref m1, .ref m2, .int om, .int tm, .ref mt, .ref mk, .ref mr, .ref ml, .ref mq])), (m1, .inl (k5, 11, .inl f1)), (m2, .inl (k6, 11, .inl f2)), (mt, .inl (k7, 121, .inl ft))] s.heap.size q := fun q h => Or.inr h
  generalize hAe : va_A [(mo, .inr (9, [.int th, .int (nI n), .ref mw, .ref mct, .ref mp, .ref mnm, .ref m1, .ref m2, .int om, .int tm, .ref mt, .ref mk, .ref mr, .ref ml, .ref mq])), (m1, .inl (k5, 11, .inl f1)), (m2, .inl (k6, 11, .inl f2)), (mt, .inl (k7, 121, .inl ft))] s.heap.size = A at hna hD hA ⊢
  have hS : va_S A s.heap s.heap [] := va_S.rf
  have hR := hR0
  have hP : va_P D vwCl [(mo, .inr (9, [.int th, .int (nI n), .ref mw, .ref mct, .ref mp, .ref mnm, .ref m1, .ref m2, .int om, .int tm, .ref mt, .ref mk, .ref mr, .ref ml, .ref mq])), (m1, .inl (k5, 11, .inl f1)), (m2, .inl (k6, 11, .inl f2)), (mt, .inl (k7, 121, .inl ft))] s.heap := hP
  have hl := lv_entry ([.ref mo, .int (nI i), .int (nI j), .long (lN a)]) (n := 7) (Nat.le_of_ble_eq_true rfl)
  rw [lg_entry_eq]
  generalize (lg_sl ([.ref mo, .int (nI i), .int (nI j), .long (lN a)]) ++ List.replicate (7 - (lg_sl ([.ref mo, .int (nI i), .int (nI j), .long (lN a)])).length) Slot.unset).toArray = ls at hl ⊢
  have hl : lv_has ls 7 [(0, .ref mo), (1, .int (nI i)), (2, .int (nI j)), (3, .long (lN a))] := hl
  have hwa := gw_wl hga
  have hwi := gw_wl (hgw i hi)
  have hwj := gw_wl (hgw j hj)
  refine lv_aload_n hx hb dX10_isBetter_0 rfl (lv_at hl 0 rfl) ?_
  refine lv_lload_n hx hb dX10_isBetter_1 rfl (lv_at hl 3 rfl) ?_
  refine lv_aload_n hx hb dX10_isBetter_2 rfl (lv_at hl 0 rfl) ?_
  refine va_get (D := D) (own := RX10) (ref := "FuzzyFensModel") (ci := 9) (v := .ref mw) (C := RX10) (T := TX10) (N := 15) hx hb hts iX10_isBetter_X10 hown hK hP 0 rfl rfl 2 (by decide) (hts (.fieldLink RX10 7 "FuzzyFensModel" "words" "[J") (List.mem_of_getElem? (i := 1) rfl)) (fun _ h9 => h9) rfl dX10_isBetter_3 ?_
  refine lv_iload_n hx hb dX10_isBetter_6 rfl (lv_at hl 1 rfl) ?_
  refine va_lald (D := D) hx hb hK hR 0 3 rfl rfl (vp_in_nI (n := i) (N := 40) (by omega) (by decide)) dX10_isBetter_7 ?_
  rw [nI_clamp (n := i) (by omega)]
  refine q_cvl (show (fun k9 => lN (wd k9)) i = lN (wd i) from rfl) ?_
  have hF := va_free (wc := [(mo, .inr (9, [.int th, .int (nI n), .ref mw, .ref mct, .ref mp, .ref mnm, .ref m1, .ref m2, .int om, .int tm, .ref mt, .ref mk, .ref mr, .ref ml, .ref mq])), (m1, .inl (k5, 11, .inl f1)), (m2, .inl (k6, 11, .inl f2)), (mt, .inl (k7, 121, .inl ft))]) hD hS hA [0, 1, 2, 3] rfl
  refine va_calli (va_runV (As := [.long (lN a), .long (lN (wd i))]) (rest := []) ⟨hx, hb, hml, hown, hts⟩ (c_X10_priceOf (l := l) (D := D) (mo := mo) (mw := mw) (mct := mct) (mp := mp) (mnm := mnm) (m1 := m1) (m2 := m2) (mt := mt) (mk := mk) (mr := mr) (ml := ml) (mq := mq) (k5 := k5) (k6 := k6) (k7 := k7) (k8 := k8) (th := th) (n := n) (om := om) (tm := tm) (f1 := f1) (f2 := f2) (ft := ft) (a := a) (b := wd i) (sz := s.heap.size) (hnd := (q_nds hnd [0, 1, 2, 3, 6] rfl rfl)) (hga := hga) (hgb := hgw i hi)) (cwV 2 hts gX10_isBetter_X10_priceOf rfl rfl rfl (by decide +kernel) ⟨Nat.le_of_ble_eq_true rfl, Nat.le_of_ble_eq_true rfl⟩) ⟨qW_blind, (va_recv hK hP (ci := 9) (q0 := 0) rfl rfl), (qW_of (hR.sub (ws' := [(mk, .inl (k8, 27, .inl (fun k9 => nI (kyf k9))))]) [2] rfl) (hP.sub (ws' := [(mo, .inr (9, [.int th, .int (nI n), .ref mw, .ref mct, .ref mp, .ref mnm, .ref m1, .ref m2, .int om, .int tm, .ref mt, .ref mk, .ref mr, .ref ml, .ref mq])), (m1, .inl (k5, 11, .inl f1)), (m2, .inl (k6, 11, .inl f2)), (mt, .inl (k7, 121, .inl ft))]) [0, 1, 2, 3] rfl) (hK.sub (tys' := [(k5, .int), (k6, .int), (k7, .int), (k8, .int)]) [0, 1, 2, 5] rfl) hNw)⟩ rfl rfl hl.1 rfl (lv_room (Nat.le_of_ble_eq_true rfl)) dX10_isBetter_8 ⟨Nat.le_of_ble_eq_true rfl, Nat.le_of_ble_eq_true rfl⟩) hS (fun q _ h => hF q h) hF (fun r_1 u_5 t_4 H_2 locs_3 ht hvm hr_1 hB hz1 hk1 hS => ?_)
  obtain ⟨g1_6, g2_7, g3_8⟩ := u_5
  dsimp only at hr_1 hB
  replace hB : va_P D vwCl [(mo, .inr (9, [.int th, .int (nI n), .ref mw, .ref mct, .ref mp, .ref mnm, .ref m1, .ref m2, .int (nI (wl a)), .int (nI (wl (wd i))), .ref mt, .ref mk, .ref mr, .ref ml, .ref mq])), (m1, .inl (k5, 11, .inl g1_6)), (m2, .inl (k6, 11, .inl g2_7)), (mt, .inl (k7, 121, .inl g3_8))] H_2 := by rw [← ht]; exact hB
  obtain ⟨hP, hD⟩ := q_join (wc := [(mo, .inr (9, [.int th, .int (nI n), .ref mw, .ref mct, .ref mp, .ref mnm, .ref m1, .ref m2, .int om, .int tm, .ref mt, .ref mk, .ref mr, .ref ml, .ref mq])), (m1, .inl (k5, 11, .inl f1)), (m2, .inl (k6, 11, .inl f2)), (mt, .inl (k7, 121, .inl ft))]) (w1 := [(mo, .inr (9, [.int th, .int (nI n), .ref mw, .ref mct, .ref mp, .ref mnm, .ref m1, .ref m2, .int (nI (wl a)), .int (nI (wl (wd i))), .ref mt, .ref mk, .ref mr, .ref ml, .ref mq])), (m1, .inl (k5, 11, .inl g1_6)), (m2, .inl (k6, 11, .inl g2_7)), (mt, .inl (k7, 121, .inl g3_8))]) (ws' := [(mo, .inr (9, [.int th, .int (nI n), .ref mw, .ref mct, .ref mp, .ref mnm, .ref m1, .ref m2, .int (nI (wl a)), .int (nI (wl (wd i))), .ref mt, .ref mk, .ref mr, .ref ml, .ref mq])), (m1, .inl (k5, 11, .inl g1_6)), (m2, .inl (k6, 11, .inl g2_7)), (mt, .inl (k7, 121, .inl g3_8))]) [0, 1, 2, 3] hP hD rfl rfl hk1 hB rfl
  have hR := q_ro hR0 hna hS
  subst hr_1
  refine q_cvi (show (nI (pr (ltz a) (ltz (wd i)) (wl a) (wl (wd i)))) = (nI (pzf wd a i)) from rfl) ?_
  refine lv_istore (lv' := [(5, .int (nI (pzf wd a i))), (0, .ref mo), (1, .int (nI i)), (2, .int (nI j)), (3, .long (lN a))]) hx hb dX10_isBetter_11 hl (by decide) rfl (fun ls hl => ?_)
  refine lv_aload_n hx hb dX10_isBetter_13 rfl (lv_at hl 1 rfl) ?_
  refine lv_lload_n hx hb dX10_isBetter_14 rfl (lv_at hl 4 rfl) ?_
  refine lv_aload_n hx hb dX10_isBetter_15 rfl (lv_at hl 1 rfl) ?_
  refine va_get (D := D) (own := RX10) (ref := "FuzzyFensModel") (ci := 9) (v := .ref mw) (C := RX10) (T := TX10) (N := 15) hx hb hts iX10_isBetter_X10 hown hK hP 0 rfl rfl 2 (by decide) (hts (.fieldLink RX10 7 "FuzzyFensModel" "words" "[J") (List.mem_of_getElem? (i := 1) rfl)) (fun _ h9 => h9) rfl dX10_isBetter_16 ?_
  refine lv_iload_n hx hb dX10_isBetter_19 rfl (lv_at hl 3 rfl) ?_
  refine va_lald (D := D) hx hb hK hR 0 3 rfl rfl (vp_in_nI (n := j) (N := 40) (by omega) (by decide)) dX10_isBetter_20 ?_
  rw [nI_clamp (n := j) (by omega)]
  refine q_cvl (show (fun k9 => lN (wd k9)) j = lN (wd j) from rfl) ?_
  have hF := va_free (wc := [(mo, .inr (9, [.int th, .int (nI n), .ref mw, .ref mct, .ref mp, .ref mnm, .ref m1, .ref m2, .int (nI (wl a)), .int (nI (wl (wd i))), .ref mt, .ref mk, .ref mr, .ref ml, .ref mq])), (m1, .inl (k5, 11, .inl g1_6)), (m2, .inl (k6, 11, .inl g2_7)), (mt, .inl (k7, 121, .inl g3_8))]) hD hS hA [0, 1, 2, 3] rfl
  refine va_calli (va_runV (As := [.long (lN a), .long (lN (wd j))]) (rest := []) ⟨hx, hb, hml, hown, hts⟩ (c_X10_priceOf (l := l) (D := D) (mo := mo) (mw := mw) (mct := mct) (mp := mp) (mnm := mnm) (m1 := m1) (m2 := m2) (mt := mt) (mk := mk) (mr := mr) (ml := ml) (mq := mq) (k5 := k5) (k6 := k6) (k7 := k7) (k8 := k8) (th := th) (n := n) (om := nI (wl a)) (tm := nI (wl (wd i))) (f1 := g1_6) (f2 := g2_7) (ft := g3_8) (a := a) (b := wd j) (sz := H_2.size) (hnd := (q_nds hnd [0, 1, 2, 3, 6] rfl rfl)) (hga := hga) (hgb := hgw j hj)) (cwV 2 hts gX10_isBetter_X10_priceOf rfl rfl rfl (by decide +kernel) ⟨Nat.le_of_ble_eq_true rfl, Nat.le_of_ble_eq_true rfl⟩) ⟨qW_blind, (va_recv hK hP (ci := 9) (q0 := 0) rfl rfl), (qW_of (hR.sub (ws' := [(mk, .inl (k8, 27, .inl (fun k9 => nI (kyf k9))))]) [2] rfl) (hP.sub (ws' := [(mo, .inr (9, [.int th, .int (nI n), .ref mw, .ref mct, .ref mp, .ref mnm, .ref m1, .ref m2, .int (nI (wl a)), .int (nI (wl (wd i))), .ref mt, .ref mk, .ref mr, .ref ml, .ref mq])), (m1, .inl (k5, 11, .inl g1_6)), (m2, .inl (k6, 11, .inl g2_7)), (mt, .inl (k7, 121, .inl g3_8))]) [0, 1, 2, 3] rfl) (hK.sub (tys' := [(k5, .int), (k6, .int), (k7, .int), (k8, .int)]) [0, 1, 2, 5] rfl) hNw)⟩ rfl rfl hl.1 rfl (lv_room (Nat.le_of_ble_eq_true rfl)) dX10_isBetter_21 ⟨Nat.le_of_ble_eq_true rfl, Nat.le_of_ble_eq_true rfl⟩) hS (fun q _ h => hF q h) hF (fun r_9 u_13 t_12 H_10 locs_11 ht hvm hr_9 hB hz1 hk1 hS => ?_)
  obtain ⟨g1_14, g2_15, g3_16⟩ := u_13
  dsimp only at hr_9 hB
  replace hB : va_P D vwCl [(mo, .inr (9, [.int th, .int (nI n), .ref mw, .ref mct, .ref mp, .ref mnm, .ref m1, .ref m2, .int (nI (wl a)), .int (nI (wl (wd j))), .ref mt, .ref mk, .ref mr, .ref ml, .ref mq])), (m1, .inl (k5, 11, .inl g1_14)), (m2, .inl (k6, 11, .inl g2_15)), (mt, .inl (k7, 121, .inl g3_16))] H_10 := by rw [← ht]; exact hB
  obtain ⟨hP, hD⟩ := q_join (wc := [(mo, .inr (9, [.int th, .int (nI n), .ref mw, .ref mct, .ref mp, .ref mnm, .ref m1, .ref m2, .int (nI (wl a)), .int (nI (wl (wd i))), .ref mt, .ref mk, .ref mr, .ref ml, .ref mq])), (m1, .inl (k5, 11, .inl g1_6)), (m2, .inl (k6, 11, .inl g2_7)), (mt, .inl (k7, 121, .inl g3_8))]) (w1 := [(mo, .inr (9, [.int th, .int (nI n), .ref mw, .ref mct, .ref mp, .ref mnm, .ref m1, .ref m2, .int (nI (wl a)), .int (nI (wl (wd j))), .ref mt, .ref mk, .ref mr, .ref ml, .ref mq])), (m1, .inl (k5, 11, .inl g1_14)), (m2, .inl (k6, 11, .inl g2_15)), (mt, .inl (k7, 121, .inl g3_16))]) (ws' := [(mo, .inr (9, [.int th, .int (nI n), .ref mw, .ref mct, .ref mp, .ref mnm, .ref m1, .ref m2, .int (nI (wl a)), .int (nI (wl (wd j))), .ref mt, .ref mk, .ref mr, .ref ml, .ref mq])), (m1, .inl (k5, 11, .inl g1_14)), (m2, .inl (k6, 11, .inl g2_15)), (mt, .inl (k7, 121, .inl g3_16))]) [0, 1, 2, 3] hP hD rfl rfl hk1 hB rfl
  have hR := q_ro hR0 hna hS
  subst hr_9
  refine q_cvi (show (nI (pr (ltz a) (ltz (wd j)) (wl a) (wl (wd j)))) = (nI (pzf wd a j)) from rfl) ?_
  have qi : pzf wd a i ≤ 40 := Nat.le_trans (pr_le _ _ _ _) (by omega)
  have qj : pzf wd a j ≤ 40 := Nat.le_trans (pr_le _ _ _ _) (by omega)
  refine lv_istore (lv' := [(6, .int (nI (pzf wd a j))), (5, .int (nI (pzf wd a i))), (0, .ref mo), (1, .int (nI i)), (2, .int (nI j)), (3, .long (lN a))]) hx hb dX10_isBetter_24 hl (by decide) rfl (fun ls hl => ?_)
  refine lv_iload hx hb dX10_isBetter_26 (lv_at hl 1 rfl) ?_
  refine lv_iload hx hb dX10_isBetter_28 (lv_at hl 0 rfl) ?_
  refine q_icmp_eq (a := pzf wd a i) (b := pzf wd a j) (tgt := 46) hx hb dX10_isBetter_30 (by decide) (by omega) (by omega) (fun c_30 => ?_) (fun c_30 => ?_)
  · skip
    refine lv_aload_n hx hb dX10_isBetter_46 rfl (lv_at hl 2 rfl) ?_
    refine va_get (D := D) (own := RX10) (ref := "FuzzyFensModel") (ci := 9) (v := .ref mct) (C := RX10) (T := TX10) (N := 15) hx hb hts iX10_isBetter_X10 hown hK hP 0 rfl rfl 3 (by decide) (hts (.fieldLink RX10 13 "FuzzyFensModel" "counts" "[I") (List.mem_of_getElem? (i := 2) rfl)) (fun _ h9 => h9) rfl dX10_isBetter_47 ?_
    refine lv_iload_n hx hb dX10_isBetter_50 rfl (lv_at hl 3 rfl) ?_
    refine va_iald (D := D) hx hb hK hR 1 4 rfl rfl (vp_in_nI (n := i) (N := 40) (by omega) (by decide)) dX10_isBetter_51 ?_
    rw [nI_clamp (n := i) (by omega)]
    refine q_cvi (show (fun k9 => nI (ct k9)) i = nI (ct i) from rfl) ?_
    refine lv_aload_n hx hb dX10_isBetter_52 rfl (lv_at hl 2 rfl) ?_
    refine va_get (D := D) (own := RX10) (ref := "FuzzyFensModel") (ci := 9) (v := .ref mct) (C := RX10) (T := TX10) (N := 15) hx hb hts iX10_isBetter_X10 hown hK hP 0 rfl rfl 3 (by decide) (hts (.fieldLink RX10 13 "FuzzyFensModel" "counts" "[I") (List.mem_of_getElem? (i := 2) rfl)) (fun _ h9 => h9) rfl dX10_isBetter_53 ?_
    refine lv_iload_n hx hb dX10_isBetter_56 rfl (lv_at hl 4 rfl) ?_
    refine va_iald (D := D) hx hb hK hR 1 4 rfl rfl (vp_in_nI (n := j) (N := 40) (by omega) (by decide)) dX10_isBetter_57 ?_
    rw [nI_clamp (n := j) (by omega)]
    refine q_cvi (show (fun k9 => nI (ct k9)) j = nI (ct j) from rfl) ?_
    refine q_icmp_ne (a := ct i) (b := ct j) (tgt := 79) hx hb dX10_isBetter_58 (by decide) (hcb i hi) (hcb j hj) (fun c_58 => ?_) (fun c_58 => ?_)
    · skip
      refine lv_aload_n hx hb dX10_isBetter_79 rfl (lv_at hl 2 rfl) ?_
      refine va_get (D := D) (own := RX10) (ref := "FuzzyFensModel") (ci := 9) (v := .ref mct) (C := RX10) (T := TX10) (N := 15) hx hb hts iX10_isBetter_X10 hown hK hP 0 rfl rfl 3 (by decide) (hts (.fieldLink RX10 13 "FuzzyFensModel" "counts" "[I") (List.mem_of_getElem? (i := 2) rfl)) (fun _ h9 => h9) rfl dX10_isBetter_80 ?_
      refine lv_iload_n hx hb dX10_isBetter_83 rfl (lv_at hl 3 rfl) ?_
      refine va_iald (D := D) hx hb hK hR 1 4 rfl rfl (vp_in_nI (n := i) (N := 40) (by omega) (by decide)) dX10_isBetter_84 ?_
      rw [nI_clamp (n := i) (by omega)]
      refine q_cvi (show (fun k9 => nI (ct k9)) i = nI (ct i) from rfl) ?_
      refine lv_aload_n hx hb dX10_isBetter_85 rfl (lv_at hl 2 rfl) ?_
      refine va_get (D := D) (own := RX10) (ref := "FuzzyFensModel") (ci := 9) (v := .ref mct) (C := RX10) (T := TX10) (N := 15) hx hb hts iX10_isBetter_X10 hown hK hP 0 rfl rfl 3 (by decide) (hts (.fieldLink RX10 13 "FuzzyFensModel" "counts" "[I") (List.mem_of_getElem? (i := 2) rfl)) (fun _ h9 => h9) rfl dX10_isBetter_86 ?_
      refine lv_iload_n hx hb dX10_isBetter_89 rfl (lv_at hl 4 rfl) ?_
      refine va_iald (D := D) hx hb hK hR 1 4 rfl rfl (vp_in_nI (n := j) (N := 40) (by omega) (by decide)) dX10_isBetter_90 ?_
      rw [nI_clamp (n := j) (by omega)]
      refine q_cvi (show (fun k9 => nI (ct k9)) j = nI (ct j) from rfl) ?_
      refine q_icmp_le (a := ct i) (b := ct j) (tgt := 98) hx hb dX10_isBetter_91 (by decide) (hcb i hi) (hcb j hj) (fun c_91 => ?_) (fun c_91 => ?_)
      · skip
        refine lv_iconst (v := nI 0) hx hb dX10_isBetter_98 (by decide) ?_
        exact W.zret (v := nI 0) hx hb hr (by decide) (fun t9 ht hW => ⟨⟨nI 0, (nI (wl a), nI (wl (wd j)), g1_14, g2_15, g3_16), rfl, (if_neg (by unfold rkb; omega)).symm, by show va_P D vwCl _ t9.heap; rw [ht]; exact hP⟩, hS.F ht⟩) hS.2.2 dX10_isBetter_99
      · skip
        refine lv_iconst (v := nI 1) hx hb dX10_isBetter_94 (by decide) ?_
        refine lv_goto (tgt := 99) hx hb dX10_isBetter_95 (by decide) ?_
        exact W.zret (v := nI 1) hx hb hr (by decide) (fun t9 ht hW => ⟨⟨nI 1, (nI (wl a), nI (wl (wd j)), g1_14, g2_15, g3_16), rfl, (if_pos (by unfold rkb; omega)).symm, by show va_P D vwCl _ t9.heap; rw [ht]; exact hP⟩, hS.F ht⟩) hS.2.2 dX10_isBetter_99
    · skip
      refine lv_aload_n hx hb dX10_isBetter_61 rfl (lv_at hl 2 rfl) ?_
      refine va_get (D := D) (own := RX10) (ref := "FuzzyFensModel") (ci := 9) (v := .ref mw) (C := RX10) (T := TX10) (N := 15) hx hb hts iX10_isBetter_X10 hown hK hP 0 rfl rfl 2 (by decide) (hts (.fieldLink RX10 7 "FuzzyFensModel" "words" "[J") (List.mem_of_getElem? (i := 1) rfl)) (fun _ h9 => h9) rfl dX10_isBetter_62 ?_
      refine lv_iload_n hx hb dX10_isBetter_65 rfl (lv_at hl 3 rfl) ?_
      refine va_lald (D := D) hx hb hK hR 0 3 rfl rfl (vp_in_nI (n := i) (N := 40) (by omega) (by decide)) dX10_isBetter_66 ?_
      rw [nI_clamp (n := i) (by omega)]
      refine q_cvl (show (fun k9 => lN (wd k9)) i = lN (wd i) from rfl) ?_
      refine lv_aload_n hx hb dX10_isBetter_67 rfl (lv_at hl 2 rfl) ?_
      refine va_get (D := D) (own := RX10) (ref := "FuzzyFensModel") (ci := 9) (v := .ref mw) (C := RX10) (T := TX10) (N := 15) hx hb hts iX10_isBetter_X10 hown hK hP 0 rfl rfl 2 (by decide) (hts (.fieldLink RX10 7 "FuzzyFensModel" "words" "[J") (List.mem_of_getElem? (i := 1) rfl)) (fun _ h9 => h9) rfl dX10_isBetter_68 ?_
      refine lv_iload_n hx hb dX10_isBetter_71 rfl (lv_at hl 4 rfl) ?_
      refine va_lald (D := D) hx hb hK hR 0 3 rfl rfl (vp_in_nI (n := j) (N := 40) (by omega) (by decide)) dX10_isBetter_72 ?_
      rw [nI_clamp (n := j) (by omega)]
      refine q_cvl (show (fun k9 => lN (wd k9)) j = lN (wd j) from rfl) ?_
      refine vp_callSi (W.runS (As := [.long (lN (wd i)), .long (lN (wd j))]) (rest := []) ⟨hx, hb, hml, hown, hts⟩ (c_X10_isAhead (l := l) (D := D) (a := wd i) (b := wd j) (ha := hgw i hi) (hb9 := hgw j hj)) (va_cwS 2 hts gX10_isBetter_X10_isAhead rfl rfl rfl (by decide +kernel) ⟨Nat.le_of_ble_eq_true rfl, Nat.le_of_ble_eq_true rfl⟩) ⟨qP_blind, (qP_of (q_Pof (fun _ h => absurd h List.not_mem_nil)) (hK.sub (tys' := []) [] rfl) hNw)⟩ rfl rfl hl.1 rfl (lv_room (Nat.le_of_ble_eq_true rfl)) dX10_isBetter_73 ⟨Nat.le_of_ble_eq_true rfl, Nat.le_of_ble_eq_true rfl⟩) (fun r_17 hr_17 => ?_)
      subst hr_17
      refine lv_goto (tgt := 99) hx hb dX10_isBetter_76 (by decide) ?_
      exact W.zret (v := if al (wd i) < al (wd j) then 1 else 0) hx hb hr (q_narb _) (fun t9 ht hW => ⟨⟨if al (wd i) < al (wd j) then 1 else 0, (nI (wl a), nI (wl (wd j)), g1_14, g2_15, g3_16), rfl, (q_ifeq (by unfold rkb; omega)), by show va_P D vwCl _ t9.heap; rw [ht]; exact hP⟩, hS.F ht⟩) hS.2.2 dX10_isBetter_99
  · skip
    refine lv_iload hx hb dX10_isBetter_33 (lv_at hl 1 rfl) ?_
    refine lv_iload hx hb dX10_isBetter_35 (lv_at hl 0 rfl) ?_
    refine q_icmp_ge (a := pzf wd a i) (b := pzf wd a j) (tgt := 44) hx hb dX10_isBetter_37 (by decide) (by omega) (by omega) (fun c_37 => ?_) (fun c_37 => ?_)
    · skip
      refine lv_iconst (v := nI 0) hx hb dX10_isBetter_44 (by decide) ?_
      exact W.zret (v := nI 0) hx hb hr (by decide) (fun t9 ht hW => ⟨⟨nI 0, (nI (wl a), nI (wl (wd j)), g1_14, g2_15, g3_16), rfl, (if_neg (by unfold rkb; omega)).symm, by show va_P D vwCl _ t9.heap; rw [ht]; exact hP⟩, hS.F ht⟩) hS.2.2 dX10_isBetter_45
    · skip
      refine lv_iconst (v := nI 1) hx hb dX10_isBetter_40 (by decide) ?_
      refine lv_goto (tgt := 45) hx hb dX10_isBetter_41 (by decide) ?_
      exact W.zret (v := nI 1) hx hb hr (by decide) (fun t9 ht hW => ⟨⟨nI 1, (nI (wl a), nI (wl (wd j)), g1_14, g2_15, g3_16), rfl, (if_pos (by unfold rkb; omega)).symm, by show va_P D vwCl _ t9.heap; rw [ht]; exact hP⟩, hS.F ht⟩) hS.2.2 dX10_isBetter_45
