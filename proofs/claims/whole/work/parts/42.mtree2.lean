set_option maxRecDepth 20000 in
theorem iX10_treeDepth_X10 : ∀ w ∈ wsX100, w ∈ wsX10_treeDepth := by decide +kernel
set_option maxHeartbeats 4000000 in
set_option maxRecDepth 100000 in
/-- treeDepth -/
theorem c_X10_treeDepth (l : Launch) (D : va_G) (sz : Nat) (mo : Nat) (mw : Nat) (mct : Nat) (mp : Nat) (mnm : Nat) (m1 : Nat) (m2 : Nat) (mt : Nat) (mk : Nat) (mr : Nat) (ml : Nat) (mq : Nat) (k1 : ClassId) (k3 : ClassId) (th : Int32) (n : Nat) (om : Int32) (tm : Int32) (wd : Nat → Nat) (pa : Nat → Option Nat) (a : Nat) (dp : Nat → Nat) (hnd : ([mo] ++ [mw, mp]).Nodup) (ha : a < 2 ^ 64) (hn40 : n ≤ 40) (hgw : ∀ k, k < n → gw (wd k)) (hinj : ∀ i j, i < n → j < n → wd i = wd j → i = j) (hpn : ∀ k i, k < n → pa k = some i → i < k) (hdp : ∀ k, k < n → (pa k = none → dp k = 0) ∧ ∀ q, pa k = some q → dp k = dp q + 1) : Met l yX10_treeDepth wsX10_treeDepth { frames := 2, cells := 0, slots := 0, locals := 48 } (va_Pc [.ref mo, .long (lN a)] (qW D sz ([(mw, .inl (k1, 40, .inr (.inl (fun k9 => lN (wd k9))))), (mp, .inl (k3, 40, .inl (fun k9 => pin (pa k9))))]) [(mo, .inr (9, [.int th, .int (nI n), .ref mw, .ref mct, .ref mp, .ref mnm, .ref m1, .ref m2, .int om, .int tm, .ref mt, .ref mk, .ref mr, .ref ml, .ref mq]))] [(k1, .long), (k3, .int)])) (va_Qi (fun (rv : Int32) (uv : (Int32)) => uv = nI (if gw a then 0 else 1) ∧ (gw a → rv = dpv dp (ffi (fun k => decide (wd k = a)) n))) (fun (uv : (Int32)) (tv : State) => va_P D vwCl [(mo, .inr (9, [.int uv, .int (nI n), .ref mw, .ref mct, .ref mp, .ref mnm, .ref m1, .ref m2, .int om, .int tm, .ref mt, .ref mk, .ref mr, .ref ml, .ref mq]))] tv.heap) (va_A [(mo, .inr (9, [.int th, .int (nI n), .ref mw, .ref mct, .ref mp, .ref mnm, .ref m1, .ref m2, .int om, .int tm, .ref mt, .ref mk, .ref mr, .ref ml, .ref mq]))] sz)) 0 0 (va_A [(mo, .inr (9, [.int th, .int (nI n), .ref mw, .ref mct, .ref mp, .ref mnm, .ref m1, .ref m2, .int om, .int tm, .ref mt, .ref mk, .ref mr, .ref ml, .ref mq]))] sz) := by
  refine Met.ofW (cc := cX10_treeDepth) (maxL := 5) (ret := (some .int)) (by decide) rfl ?_
  intro pM eM s mi9 argsM belowM methM cM sM B hml hv
  obtain ⟨rfl, hsz, hR0, hP, hK, hNw⟩ := hv
  have hx := B.exec
  have hb := B.bytes
  have hr := B.returns
  have hts := atoms_spec (ws := wsX10_treeDepth) B.pre
  have hown : s.vm.findClass RX10 = some mi9.cls := findClass_of_methodNamed B.named
  have hlocks := B.notSynchronized
  subst hsz
  have hna := q_na (RW := [(mo, .inr (9, [.int th, .int (nI n), .ref mw, .ref mct, .ref mp, .ref mnm, .ref m1, .ref m2, .int om, .int tm, .ref mt, .ref mk, .ref mr, .ref ml, .ref mq]))]) (RO := [(mw, .inl (k1, 40, .inr (.inl (fun k9 => lN (wd k9))))), (mp, .inl (k3, 40, .inl (fun k9 => pin (pa k9))))]) hnd rfl rfl hR0
  have hD := q_D (RW := [(mo, .inr (9, [.int th, .int (nI n), .ref mw, .ref mct, .ref mp, .ref mnm, .ref m1, .ref m2, .int om, .int tm, .ref mt, .ref mk, .ref mr, .ref ml, .ref mq]))]) (sz := s.heap.size) hnd rfl
  have hA : ∀ q : Nat, s.heap.size ≤ q → va_A [(mo, .inr (9, [.int th, .int (nI n), .ref mw, .ref mct, .ref mp, .ref mnm, .ref m1, .ref m2, .int om, .int tm, .ref mt, .ref mk, .ref mr, .ref ml, .ref mq]))] s.heap.size q := fun q h => Or.inr h
  generalize hAe : va_A [(mo, .inr (9, [.int th, .int (nI n), .ref mw, .ref mct, .ref mp, .ref mnm, .ref m1, .ref m2, .int om, .int tm, .ref mt, .ref mk, .ref mr, .ref ml, .ref mq]))] s.heap.size = A at hna hD hA ⊢
  have hS : va_S A s.heap s.heap [] := va_S.rf
  have hR := hR0
  have hP : va_P D vwCl [(mo, .inr (9, [.int th, .int (nI n), .ref mw, .ref mct, .ref mp, .ref mnm, .ref m1, .ref m2, .int om, .int tm, .ref mt, .ref mk, .ref mr, .ref ml, .ref mq]))] s.heap := hP
  have hl := lv_entry ([.ref mo, .long (lN a)]) (n := 5) (Nat.le_of_ble_eq_true rfl)
  rw [lg_entry_eq]
  generalize (lg_sl ([.ref mo, .long (lN a)]) ++ List.replicate (5 - (lg_sl ([.ref mo, .long (lN a)])).length) Slot.unset).toArray = ls at hl ⊢
  have hl : lv_has ls 5 [(0, .ref mo), (1, .long (lN a))] := hl
  refine lv_aload_n hx hb dX10_treeDepth_0 rfl (lv_at hl 0 rfl) ?_
  refine lv_lload_n hx hb dX10_treeDepth_1 rfl (lv_at hl 1 rfl) ?_
  refine vp_callSi (W.runS (As := [.long (lN a)]) (rest := [.ref mo]) ⟨hx, hb, hml, hown, hts⟩ (c_X10_isWord (l := l) (D := D) (a := a) (ha := ha)) (va_cwS 1 hts gX10_treeDepth_X10_isWord rfl rfl rfl (by decide +kernel) ⟨Nat.le_of_ble_eq_true rfl, Nat.le_of_ble_eq_true rfl⟩) ⟨qP_blind, (qP_of (q_Pof (fun _ h => absurd h List.not_mem_nil)) (hK.sub (tys' := []) [] rfl) hNw)⟩ rfl rfl hl.1 rfl (lv_room (Nat.le_of_ble_eq_true rfl)) dX10_treeDepth_2 ⟨Nat.le_of_ble_eq_true rfl, Nat.le_of_ble_eq_true rfl⟩) (fun r_1 hr_1 => ?_)
  subst hr_1
  refine q_ifb_eq (tgt := 12) hx hb dX10_treeDepth_5 (by decide) (fun c_5 => ?_) (fun c_5 => ?_)
  · skip
    refine lv_iconst (v := nI 1) hx hb dX10_treeDepth_12 (by decide) ?_
    have hF := va_free (wc := [(mo, .inr (9, [.int th, .int (nI n), .ref mw, .ref mct, .ref mp, .ref mnm, .ref m1, .ref m2, .int om, .int tm, .ref mt, .ref mk, .ref mr, .ref ml, .ref mq]))]) hD hS hA [0] rfl
    refine va_calli (va_runV (As := [.int (nI 1)]) (rest := []) ⟨hx, hb, hml, hown, hts⟩ (c_X10_goesWell (l := l) (D := D) (mo := mo) (mw := mw) (mct := mct) (mp := mp) (mnm := mnm) (m1 := m1) (m2 := m2) (mt := mt) (mk := mk) (mr := mr) (ml := ml) (mq := mq) (th := th) (n := n) (om := om) (tm := tm) (x9 := 1) (sz := s.heap.size) (hnd := (q_nds hnd [0] rfl rfl)) (hx9 := by omega)) (cwV 1 hts gX10_treeDepth_X10_goesWell rfl rfl rfl (by decide +kernel) ⟨Nat.le_of_ble_eq_true rfl, Nat.le_of_ble_eq_true rfl⟩) ⟨qW_blind, (va_recv hK hP (ci := 9) (q0 := 0) rfl rfl), (qW_of (q_Pof (fun _ h => absurd h List.not_mem_nil)) (hP.sub (ws' := [(mo, .inr (9, [.int th, .int (nI n), .ref mw, .ref mct, .ref mp, .ref mnm, .ref m1, .ref m2, .int om, .int tm, .ref mt, .ref mk, .ref mr, .ref ml, .ref mq]))]) [0] rfl) (hK.sub (tys' := []) [] rfl) hNw)⟩ rfl rfl hl.1 rfl (lv_room (Nat.le_of_ble_eq_true rfl)) dX10_treeDepth_13 ⟨Nat.le_of_ble_eq_true rfl, Nat.le_of_ble_eq_true rfl⟩) hS (fun q _ h => hF q h) hF (fun r_2 u_6 t_5 H_3 locs_4 ht hvm hr_2 hB hz1 hk1 hS => ?_)
    replace hB : va_P D vwCl [(mo, .inr (9, [.int (nI 1), .int (nI n), .ref mw, .ref mct, .ref mp, .ref mnm, .ref m1, .ref m2, .int om, .int tm, .ref mt, .ref mk, .ref mr, .ref ml, .ref mq]))] H_3 := by rw [← ht]; exact hB
    obtain ⟨hP, hD⟩ := q_join (wc := [(mo, .inr (9, [.int th, .int (nI n), .ref mw, .ref mct, .ref mp, .ref mnm, .ref m1, .ref m2, .int om, .int tm, .ref mt, .ref mk, .ref mr, .ref ml, .ref mq]))]) (w1 := [(mo, .inr (9, [.int (nI 1), .int (nI n), .ref mw, .ref mct, .ref mp, .ref mnm, .ref m1, .ref m2, .int om, .int tm, .ref mt, .ref mk, .ref mr, .ref ml, .ref mq]))]) (ws' := [(mo, .inr (9, [.int (nI 1), .int (nI n), .ref mw, .ref mct, .ref mp, .ref mnm, .ref m1, .ref m2, .int om, .int tm, .ref mt, .ref mk, .ref mr, .ref ml, .ref mq]))]) [0] hP hD rfl rfl hk1 hB rfl
    have hR := q_ro hR0 hna hS
    subst hr_2
    refine q_ifb_ne (tgt := 21) hx hb dX10_treeDepth_16 (by decide) (fun c9 => absurd c9 (by decide)) (fun _ => ?_)
    refine lv_iconst (v := nI 0) hx hb dX10_treeDepth_19 (by decide) ?_
    exact W.iret (v := nI 0) hx hb hr (fun t9 ht hW => ⟨⟨nI 0, nI 1, rfl, ⟨(by rw [if_neg c_5]), (fun h9 => absurd h9 c_5)⟩, by show va_P D vwCl _ t9.heap; rw [ht]; exact hP⟩, hS.F ht⟩) hS.2.2 dX10_treeDepth_20
  · skip
    refine lv_iconst (v := nI 0) hx hb dX10_treeDepth_8 (by decide) ?_
    refine lv_goto (tgt := 13) hx hb dX10_treeDepth_9 (by decide) ?_
    have hF := va_free (wc := [(mo, .inr (9, [.int th, .int (nI n), .ref mw, .ref mct, .ref mp, .ref mnm, .ref m1, .ref m2, .int om, .int tm, .ref mt, .ref mk, .ref mr, .ref ml, .ref mq]))]) hD hS hA [0] rfl
    refine va_calli (va_runV (As := [.int (nI 0)]) (rest := []) ⟨hx, hb, hml, hown, hts⟩ (c_X10_goesWell (l := l) (D := D) (mo := mo) (mw := mw) (mct := mct) (mp := mp) (mnm := mnm) (m1 := m1) (m2 := m2) (mt := mt) (mk := mk) (mr := mr) (ml := ml) (mq := mq) (th := th) (n := n) (om := om) (tm := tm) (x9 := 0) (sz := s.heap.size) (hnd := (q_nds hnd [0] rfl rfl)) (hx9 := by omega)) (cwV 1 hts gX10_treeDepth_X10_goesWell rfl rfl rfl (by decide +kernel) ⟨Nat.le_of_ble_eq_true rfl, Nat.le_of_ble_eq_true rfl⟩) ⟨qW_blind, (va_recv hK hP (ci := 9) (q0 := 0) rfl rfl), (qW_of (q_Pof (fun _ h => absurd h List.not_mem_nil)) (hP.sub (ws' := [(mo, .inr (9, [.int th, .int (nI n), .ref mw, .ref mct, .ref mp, .ref mnm, .ref m1, .ref m2, .int om, .int tm, .ref mt, .ref mk, .ref mr, .ref ml, .ref mq]))]) [0] rfl) (hK.sub (tys' := []) [] rfl) hNw)⟩ rfl rfl hl.1 rfl (lv_room (Nat.le_of_ble_eq_true rfl)) dX10_treeDepth_13 ⟨Nat.le_of_ble_eq_true rfl, Nat.le_of_ble_eq_true rfl⟩) hS (fun q _ h => hF q h) hF (fun r_7 u_11 t_10 H_8 locs_9 ht hvm hr_7 hB hz1 hk1 hS => ?_)
    replace hB : va_P D vwCl [(mo, .inr (9, [.int (nI 0), .int (nI n), .ref mw, .ref mct, .ref mp, .ref mnm, .ref m1, .ref m2, .int om, .int tm, .ref mt, .ref mk, .ref mr, .ref ml, .ref mq]))] H_8 := by rw [← ht]; exact hB
    obtain ⟨hP, hD⟩ := q_join (wc := [(mo, .inr (9, [.int th, .int (nI n), .ref mw, .ref mct, .ref mp, .ref mnm, .ref m1, .ref m2, .int om, .int tm, .ref mt, .ref mk, .ref mr, .ref ml, .ref mq]))]) (w1 := [(mo, .inr (9, [.int (nI 0), .int (nI n), .ref mw, .ref mct, .ref mp, .ref mnm, .ref m1, .ref m2, .int om, .int tm, .ref mt, .ref mk, .ref mr, .ref ml, .ref mq]))]) (ws' := [(mo, .inr (9, [.int (nI 0), .int (nI n), .ref mw, .ref mct, .ref mp, .ref mnm, .ref m1, .ref m2, .int om, .int tm, .ref mt, .ref mk, .ref mr, .ref ml, .ref mq]))]) [0] hP hD rfl rfl hk1 hB rfl
    have hR := q_ro hR0 hna hS
    subst hr_7
    refine q_ifb_ne (tgt := 21) hx hb dX10_treeDepth_16 (by decide) (fun _ => ?_) (fun c9 => absurd (by decide) c9)
    refine lv_iconst (v := (-1)) hx hb dX10_treeDepth_21 (by decide) ?_
    refine lv_istore_n (lv' := [(3, .int ((-1))), (0, .ref mo), (1, .long (lN a))]) hx hb dX10_treeDepth_22 rfl hl (by decide) rfl (fun ls hl => ?_)
    refine lv_aload_n hx hb dX10_treeDepth_23 rfl (lv_at hl 1 rfl) ?_
    refine lv_lload_n hx hb dX10_treeDepth_24 rfl (lv_at hl 2 rfl) ?_
    refine vp_callSi (W.runV (As := [.long (lN a)]) (rest := []) ⟨hx, hb, hml, hown, hts⟩ (c_X10_find (l := l) (D := D) (mo := mo) (mw := mw) (mct := mct) (mp := mp) (mnm := mnm) (m1 := m1) (m2 := m2) (mt := mt) (mk := mk) (mr := mr) (ml := ml) (mq := mq) (k1 := k1) (th := nI 0) (n := n) (om := om) (tm := tm) (wd := wd) (v := a) (hv9 := by have := gw_lt c_5; omega) (hn40 := hn40) (hgw := hgw) (hinj := hinj)) (cwV 1 hts gX10_treeDepth_X10_find rfl rfl rfl (by decide +kernel) ⟨Nat.le_of_ble_eq_true rfl, Nat.le_of_ble_eq_true rfl⟩) ⟨qP_blind, (va_recv hK hP (ci := 9) (q0 := 0) rfl rfl), (qP_of (show va_P D vwCl [(mo, .inr (9, [.int (nI 0), .int (nI n), .ref mw, .ref mct, .ref mp, .ref mnm, .ref m1, .ref m2, .int om, .int tm, .ref mt, .ref mk, .ref mr, .ref ml, .ref mq])), (mw, .inl (k1, 40, .inr (.inl (fun k9 => lN (wd k9)))))] _ from (va_P.app (hP.sub (ws' := [(mo, .inr (9, [.int (nI 0), .int (nI n), .ref mw, .ref mct, .ref mp, .ref mnm, .ref m1, .ref m2, .int om, .int tm, .ref mt, .ref mk, .ref mr, .ref ml, .ref mq]))]) [0] rfl) (hR.sub (ws' := [(mw, .inl (k1, 40, .inr (.inl (fun k9 => lN (wd k9)))))]) [0] rfl))) (hK.sub (tys' := [(k1, .long)]) [0] rfl) hNw)⟩ rfl rfl hl.1 rfl (lv_room (Nat.le_of_ble_eq_true rfl)) dX10_treeDepth_25 ⟨Nat.le_of_ble_eq_true rfl, Nat.le_of_ble_eq_true rfl⟩) (fun r_12 hr_12 => ?_)
    subst hr_12
    refine lv_istore (lv' := [(4, .int (pin (ffi (fun k => decide (wd k = a)) n))), (3, .int ((-1))), (0, .ref mo), (1, .long (lN a))]) hx hb dX10_treeDepth_28 hl (by decide) rfl (fun ls hl => ?_)
    refine q_opt (o := ffi (fun k => decide (wd k = a)) n) (fun e_30 => ?_) (fun i7 e_30 => ?_)
    · skip
      have hl : lv_has ls 5 [(4, .int ((-1))), (3, .int ((-1))), (0, .ref mo), (1, .long (lN a))] := by rw [e_30] at hl; exact hl
      refine lv_iload hx hb dX10_treeDepth_30 (lv_at hl 0 rfl) ?_
      refine lv_iconst (v := (-1)) hx hb dX10_treeDepth_32 (by decide) ?_
      refine lv_icmp_eq (tgt := 51) hx hb dX10_treeDepth_33 (by decide) (fun _ => ?_) (fun c9 => absurd rfl c9)
      refine lv_iload_n hx hb dX10_treeDepth_51 rfl (lv_at hl 1 rfl) ?_
      exact W.iret (v := (-1)) hx hb hr (fun t9 ht hW => ⟨⟨(-1), nI 0, rfl, ⟨(by rw [if_pos c_5]), (fun _ => by rw [e_30]; rfl)⟩, by show va_P D vwCl _ t9.heap; rw [ht]; exact hP⟩, hS.F ht⟩) hS.2.2 dX10_treeDepth_52
    · skip
      have hi7 := (ffi_some e_30).1
      have hl : lv_has ls 5 [(4, .int (nI i7)), (3, .int ((-1))), (0, .ref mo), (1, .long (lN a))] := by rw [e_30] at hl; exact hl
      refine lv_iload hx hb dX10_treeDepth_30 (lv_at hl 0 rfl) ?_
      refine lv_iconst (v := (-1)) hx hb dX10_treeDepth_32 (by decide) ?_
      refine lv_icmp_eq (tgt := 51) hx hb dX10_treeDepth_33 (by decide) (fun c9 => absurd c9 (nI_nm1 (by omega))) (fun _ => ?_)
      refine lv_iinc (v := nI 0) (lv' := [(3, .int (nI 0)), (4, .int (nI i7)), (0, .ref mo), (1, .long (lN a))]) hx hb dX10_treeDepth_36 hl (k := 1) rfl (by decide) (by decide) rfl (fun ls hl => ?_)
      refine lv_aload_n hx hb dX10_treeDepth_39 rfl (lv_at hl 2 rfl) ?_
      refine va_get (D := D) (own := RX10) (ref := "FuzzyFensModel") (ci := 9) (v := .ref mp) (C := RX10) (T := TX10) (N := 15) hx hb hts iX10_treeDepth_X10 hown hK hP 0 rfl rfl 4 (by decide) (hts (.fieldLink RX10 17 "FuzzyFensModel" "parents" "[I") (List.mem_of_getElem? (i := 1) rfl)) (fun _ h9 => h9) rfl dX10_treeDepth_40 ?_
      refine lv_iload hx hb dX10_treeDepth_43 (lv_at hl 1 rfl) ?_
      refine va_iald (D := D) hx hb hK hR 1 1 rfl rfl (vp_in_nI (n := i7) (N := 40) (by omega) (by decide)) dX10_treeDepth_45 ?_
      rw [nI_clamp (n := i7) (by omega)]
      refine q_cvi (show (fun k9 => pin (pa k9)) i7 = pin (pa i7) from rfl) ?_
      refine lv_istore (lv' := [(4, .int (pin (pa i7))), (3, .int (nI 0)), (0, .ref mo), (1, .long (lN a))]) hx hb dX10_treeDepth_46 hl (by decide) rfl (fun ls hl => ?_)
      refine lv_goto (tgt := 30) hx hb dX10_treeDepth_48 (by decide) ?_
      refine q_loop (fun (x : (Nat) × (Option Nat)) (Hc : Heap) (Lc : List Loc) (ls : Array Slot) => match x with | (t, y) => ((∀ c, y = some c → c < n ∧ t + dp c + 1 = dp i7) ∧ (y = none → t = dp i7)) ∧ H_8 = Hc ∧ locs_9 = Lc ∧ lv_has ls 5 [(4, .int (pin y)), (3, .int (nI t)), (0, .ref mo), (1, .long (lN a))]) (fun (x : (Nat) × (Option Nat)) => match x with | (t, y) => dpm dp y) (0, pa i7) ⟨⟨fun c9 h9 => ⟨by have := hpn _ _ hi7 h9; omega, by have := (hdp _ hi7).2 _ h9; omega⟩, fun h9 => ((hdp _ hi7).1 h9).symm⟩, rfl, rfl, (lv_sub hl [0, 1, 2, 3] rfl)⟩ ?_
      clear hl
      rintro ⟨t, y⟩ Hc Lc ls hI ih_30
      obtain ⟨hy, rfl, rfl, hl⟩ := hI
      refine lv_iload hx hb dX10_treeDepth_30 (lv_at hl 0 rfl) ?_
      refine lv_iconst (v := (-1)) hx hb dX10_treeDepth_32 (by decide) ?_
      refine q_pin_eq (o := y) (tgt := 51) hx hb dX10_treeDepth_33 (by decide) (fun i9 h9 => by have := (hy.1 _ h9).1; omega) (fun c_33 => ?_) (fun y_33 c_33 => ?_)
      · skip
        have hl : lv_has ls 5 [(4, .int ((-1))), (3, .int (nI t)), (0, .ref mo), (1, .long (lN a))] := by rw [c_33] at hl; exact hl
        refine lv_iload_n hx hb dX10_treeDepth_51 rfl (lv_at hl 1 rfl) ?_
        exact W.iret (v := nI t) hx hb hr (fun t9 ht hW => ⟨⟨nI t, nI 0, rfl, ⟨(by rw [if_pos c_5]), (fun _ => by rw [e_30]; show nI t = nI (dp i7); rw [hy.2 c_33])⟩, by show va_P D vwCl _ t9.heap; rw [ht]; exact hP⟩, hS.F ht⟩) hS.2.2 dX10_treeDepth_52
      · skip
        have hy3 := (hy.1 _ c_33).1
        have hl : lv_has ls 5 [(4, .int (nI y_33)), (3, .int (nI t)), (0, .ref mo), (1, .long (lN a))] := by rw [c_33] at hl; exact hl
        refine lv_iinc (v := nI (t + 1)) (lv' := [(3, .int (nI (t + 1))), (4, .int (nI y_33)), (0, .ref mo), (1, .long (lN a))]) hx hb dX10_treeDepth_36 hl (k := 1) rfl (q_inc (k := 1) (by omega)) (by decide) rfl (fun ls hl => ?_)
        refine lv_aload_n hx hb dX10_treeDepth_39 rfl (lv_at hl 2 rfl) ?_
        refine va_get (D := D) (own := RX10) (ref := "FuzzyFensModel") (ci := 9) (v := .ref mp) (C := RX10) (T := TX10) (N := 15) hx hb hts iX10_treeDepth_X10 hown hK hP 0 rfl rfl 4 (by decide) (hts (.fieldLink RX10 17 "FuzzyFensModel" "parents" "[I") (List.mem_of_getElem? (i := 1) rfl)) (fun _ h9 => h9) rfl dX10_treeDepth_40 ?_
        refine lv_iload hx hb dX10_treeDepth_43 (lv_at hl 1 rfl) ?_
        refine va_iald (D := D) hx hb hK hR 1 1 rfl rfl (vp_in_nI (n := y_33) (N := 40) (by omega) (by decide)) dX10_treeDepth_45 ?_
        rw [nI_clamp (n := y_33) (by omega)]
        refine q_cvi (show (fun k9 => pin (pa k9)) y_33 = pin (pa y_33) from rfl) ?_
        refine lv_istore (lv' := [(4, .int (pin (pa y_33))), (3, .int (nI (t + 1))), (0, .ref mo), (1, .long (lN a))]) hx hb dX10_treeDepth_46 hl (by decide) rfl (fun ls hl => ?_)
        refine lv_goto (tgt := 30) hx hb dX10_treeDepth_48 (by decide) ?_
        exact ih_30 (t + 1, pa y_33) _ _ _ ⟨⟨fun c9 h9 => ⟨by have := hpn _ _ (hy.1 _ c_33).1 h9; have := (hy.1 _ c_33).1; omega, by have := (hdp _ (hy.1 _ c_33).1).2 _ h9; have := (hy.1 _ c_33).2; omega⟩, fun h9 => by have := (hdp _ (hy.1 _ c_33).1).1 h9; have := (hy.1 _ c_33).2; omega⟩, rfl, rfl, (lv_sub hl [0, 1, 2, 3] rfl)⟩ (by show dpm dp (pa y_33) < dpm dp y; (rw [c_33]; cases e5 : pa y_33 with | none => exact Nat.succ_pos _ | some q5 => have := (hdp _ (hy.1 _ c_33).1).2 _ e5; show dp q5 + 1 < dp y_33 + 1; omega))

set_option maxRecDepth 20000 in
theorem iX10_isCompared_X10 : ∀ w ∈ wsX100, w ∈ wsX10_isCompared := by decide +kernel
set_option maxHeartbeats 4000000 in
set_option maxRecDepth 100000 in
/-- isCompared -/
theorem c_X10_isCompared (l : Launch) (D : va_G) (sz : Nat) (mo : Nat) (mw : Nat) (mct : Nat) (mp : Nat) (mnm : Nat) (m1 : Nat) (m2 : Nat) (mt : Nat) (mk : Nat) (mr : Nat) (ml : Nat) (mq : Nat) (k1 : ClassId) (k3 : ClassId) (k4 : ClassId) (k5 : ClassId) (k6 : ClassId) (k7 : ClassId) (th : Int32) (n : Nat) (om : Int32) (tm : Int32) (f1 : Nat → Int32) (f2 : Nat → Int32) (ft : Nat → Int32) (wd : Nat → Nat) (pa : Nat → Option Nat) (nm : Nat → Nat) (a : Nat) (CC : Nat → Bool) (p9 : Nat) (k : Nat) (hnd : ([mo, m1, m2, mt] ++ [mw, mp, mnm]).Nodup) (hga : gw a) (hn40 : n ≤ 40) (hgw : ∀ k, k < n → gw (wd k)) (hpn : ∀ k i, k < n → pa k = some i → i < k) (hnb : ∀ k, k < n → nm k ≤ 20) (hCq : ∀ i, i < n → (CC i = true ↔ ∀ q, pa i = some q → (CC q = true ∧ nm i ≤ dst wd a q + k ∧ dst wd a q ≤ nm i + k))) (hp9 : p9 < n) (hk3 : k ≤ 3) : Met l yX10_isCompared wsX10_isCompared { frames := 4, cells := 0, slots := 0, locals := 100 } (va_Pc [.ref mo, .int (nI p9), .long (lN a), .int (nI k)] (qW D sz ([(mw, .inl (k1, 40, .inr (.inl (fun k9 => lN (wd k9))))), (mp, .inl (k3, 40, .inl (fun k9 => pin (pa k9)))), (mnm, .inl (k4, 40, .inl (fun k9 => nI (nm k9))))]) [(mo, .inr (9, [.int th, .int (nI n), .ref mw, .ref mct, .ref mp, .ref mnm, .ref m1, .ref m2, .int om, .int tm, .ref mt, .ref mk, .ref mr, .ref ml, .ref mq])), (m1, .inl (k5, 11, .inl f1)), (m2, .inl (k6, 11, .inl f2)), (mt, .inl (k7, 121, .inl ft))] [(k5, .int), (k6, .int), (k7, .int), (k1, .long), (k3, .int), (k4, .int)])) (va_Qi (fun (rv : Int32) (uv : (Int32) × (Int32) × (Nat → Int32) × (Nat → Int32) × (Nat → Int32)) => rv = (if CC p9 = true then 1 else 0)) (fun (uv : (Int32) × (Int32) × (Nat → Int32) × (Nat → Int32) × (Nat → Int32)) (tv : State) => va_P D vwCl [(mo, .inr (9, [.int th, .int (nI n), .ref mw, .ref mct, .ref mp, .ref mnm, .ref m1, .ref m2, .int uv.1, .int uv.2.1, .ref mt, .ref mk, .ref mr, .ref ml, .ref mq])), (m1, .inl (k5, 11, .inl uv.2.2.1)), (m2, .inl (k6, 11, .inl uv.2.2.2.1)), (mt, .inl (k7, 121, .inl uv.2.2.2.2))] tv.heap) (va_A [(mo, .inr (9, [.int th, .int (nI n), .ref mw, .ref mct, .ref mp, .ref mnm, .ref m1, .ref m2, .int om, .int tm, .ref mt, .ref mk, .ref mr, .ref ml, .ref mq])), (m1, .inl (k5, 11, .inl f1)), (m2, .inl (k6, 11, .inl f2)), (mt, .inl (k7, 121, .inl ft))] sz)) 0 0 (va_A [(mo, .inr (9, [.int th, .int (nI n), .ref mw, .ref mct, .ref mp, .ref mnm, .ref m1, .ref m2, .int om, .int tm, .ref mt, .ref mk, .ref mr, .ref ml, .ref mq])), (m1, .inl (k5, 11, .inl f1)), (m2, .inl (k6, 11, .inl f2)), (mt, .inl (k7, 121, .inl ft))] sz) := by
  refine Met.ofW (cc := cX10_isCompared) (maxL := 8) (ret := (some .boolean)) (by decide) rfl ?_
  intro pM eM s mi9 argsM belowM methM cM sM B hml hv
  obtain ⟨rfl, hsz, hR0, hP, hK, hNw⟩ := hv
  have hx := B.exec
  have hb := B.bytes
  have hr := B.returns
  have hts := atoms_spec (ws := wsX10_isCompared) B.pre
  have hown : s.vm.findClass RX10 = some mi9.cls := findClass_of_methodNamed B.named
  have hlocks := B.notSynchronized
  subst hsz
  have hna := q_na (RW := [(mo, .inr (9, [.int th, .int (nI n), .ref mw, .ref mct, .ref mp, .ref mnm, .ref m1, .ref m2, .int om, .int tm, .ref mt, .ref mk, .ref mr, .ref ml, .ref mq])), (m1, .inl (k5, 11, .inl f1)), (m2, .inl (k6, 11, .inl f2)), (mt, .inl (k7, 121, .inl ft))]) (RO := [(mw, .inl (k1, 40, .inr (.inl (fun k9 => lN (wd k9))))), (mp, .inl (k3, 40, .inl (fun k9 => pin (pa k9)))), (mnm, .inl (k4, 40, .inl (fun k9 => nI (nm k9))))]) hnd rfl rfl hR0
  have hD := q_D (RW := [(mo, .inr (9, [.int th, .int (nI n), .ref mw, .ref mct, .ref mp, .ref mnm, .ref m1, .ref m2, .int om, .int tm, .ref mt, .ref mk, .ref mr, .ref ml, .ref mq])), (m1, .inl (k5, 11, .inl f1)), (m2, .inl (k6, 11, .inl f2)), (mt, .inl (k7, 121, .inl ft))]) (sz := s.heap.size) hnd rfl
  have hA : ∀ q : Nat, s.heap.size ≤ q → va_A [(mo, .inr (9, [.int th, .int (nI n), .ref mw, .ref mct, .ref mp, .ref mnm, .ref m1, .ref m2, .int om, .int tm, .ref mt, .ref mk, .ref mr, .ref ml, .ref mq])), (m1, .inl (k5, 11, .inl f1)), (m2, .inl (k6, 11, .inl f2)), (mt, .inl (k7, 121, .inl ft))] s.heap.size q := fun q h => Or.inr h
  generalize hAe : va_A [(mo, .inr (9, [.int th, .int (nI n), .ref mw, .ref mct, .ref mp, .ref mnm, .ref m1, .ref m2, .int om, .int tm, .ref mt, .ref mk, .ref mr, .ref ml, .ref mq])), (m1, .inl (k5, 11, .inl f1)), (m2, .inl (k6, 11, .inl f2)), (mt, .inl (k7, 121, .inl ft))] s.heap.size = A at hna hD hA ⊢
  have hS : va_S A s.heap s.heap [] := va_S.rf
  have hR := hR0
  have hP : va_P D vwCl [(mo, .inr (9, [.int th, .int (nI n), .ref mw, .ref mct, .ref mp, .ref mnm, .ref m1, .ref m2, .int om, .int tm, .ref mt, .ref mk, .ref mr, .ref ml, .ref mq])), (m1, .inl (k5, 11, .inl f1)), (m2, .inl (k6, 11, .inl f2)), (mt, .inl (k7, 121, .inl ft))] s.heap := hP
  have hl := lv_entry ([.ref mo, .int (nI p9), .long (lN a), .int (nI k)]) (n := 8) (Nat.le_of_ble_eq_true rfl)
  rw [lg_entry_eq]
  generalize (lg_sl ([.ref mo, .int (nI p9), .long (lN a), .int (nI k)]) ++ List.replicate (8 - (lg_sl ([.ref mo, .int (nI p9), .long (lN a), .int (nI k)])).length) Slot.unset).toArray = ls at hl ⊢
  have hl : lv_has ls 8 [(0, .ref mo), (1, .int (nI p9)), (2, .long (lN a)), (4, .int (nI k))] := hl
  have hwa := gw_wl hga
  have hla := gw_lt hga
  refine lv_iconst (v := nI 1) hx hb dX10_isCompared_0 (by decide) ?_
  refine lv_istore (lv' := [(5, .int (nI 1)), (0, .ref mo), (1, .int (nI p9)), (2, .long (lN a)), (4, .int (nI k))]) hx hb dX10_isCompared_1 hl (by decide) rfl (fun ls hl => ?_)
  refine lv_iload_n hx hb dX10_isCompared_3 rfl (lv_at hl 2 rfl) ?_
  refine lv_istore (lv' := [(6, .int (nI p9)), (5, .int (nI 1)), (0, .ref mo), (1, .int (nI p9)), (2, .long (lN a)), (4, .int (nI k))]) hx hb dX10_isCompared_4 hl (by decide) rfl (fun ls hl => ?_)
  refine q_loop (fun (x : (Nat) × (Nat) × (Int32) × (Int32) × (Nat → Int32) × (Nat → Int32) × (Nat → Int32)) (H : Heap) (locs : List Loc) (ls : Array Slot) => match x with | (c, b, oa, ta, u1, u2, u3) => (c < n) ∧ (b ≤ 1) ∧ (CC p9 = true ↔ (b = 1 ∧ CC c = true)) ∧ va_P D vwCl [(mo, .inr (9, [.int th, .int (nI n), .ref mw, .ref mct, .ref mp, .ref mnm, .ref m1, .ref m2, .int oa, .int ta, .ref mt, .ref mk, .ref mr, .ref ml, .ref mq])), (m1, .inl (k5, 11, .inl u1)), (m2, .inl (k6, 11, .inl u2)), (mt, .inl (k7, 121, .inl u3))] H ∧ va_D A [(mo, .inr (9, [.int th, .int (nI n), .ref mw, .ref mct, .ref mp, .ref mnm, .ref m1, .ref m2, .int oa, .int ta, .ref mt, .ref mk, .ref mr, .ref ml, .ref mq])), (m1, .inl (k5, 11, .inl u1)), (m2, .inl (k6, 11, .inl u2)), (mt, .inl (k7, 121, .inl u3))] ∧ va_S A s.heap H locs ∧ lv_has ls 8 [(6, .int (nI c)), (5, .int (nI b)), (0, .ref mo), (1, .int (nI p9)), (2, .long (lN a)), (4, .int (nI k))]) (fun (x : (Nat) × (Nat) × (Int32) × (Int32) × (Nat → Int32) × (Nat → Int32) × (Nat → Int32)) => match x with | (c, b, oa, ta, u1, u2, u3) => c) (p9, 1, om, tm, f1, f2, ft) ⟨hp9, (by omega), (by simp), hP, hD, hS, (lv_sub hl [0, 1, 2, 3, 4, 5] rfl)⟩ ?_
  clear hl
  clear hP hD hS
  rintro ⟨c, b, oa, ta, u1, u2, u3⟩ H locs ls hI ih_6
  obtain ⟨hc9, hbb, hbC, hP, hD, hS, hl⟩ := hI
  have hR := q_ro hR0 hna hS
  refine lv_aload_n hx hb dX10_isCompared_6 rfl (lv_at hl 2 rfl) ?_
  refine va_get (D := D) (own := RX10) (ref := "FuzzyFensModel") (ci := 9) (v := .ref mp) (C := RX10) (T := TX10) (N := 15) hx hb hts iX10_isCompared_X10 hown hK hP 0 rfl rfl 4 (by decide) (hts (.fieldLink RX10 17 "FuzzyFensModel" "parents" "[I") (List.mem_of_getElem? (i := 1) rfl)) (fun _ h9 => h9) rfl dX10_isCompared_7 ?_
  refine lv_iload hx hb dX10_isCompared_10 (lv_at hl 0 rfl) ?_
  refine va_iald (D := D) hx hb hK hR 1 4 rfl rfl (vp_in_nI (n := c) (N := 40) (by omega) (by decide)) dX10_isCompared_12 ?_
  rw [nI_clamp (n := c) (by omega)]
  refine q_cvi (show (fun k9 => pin (pa k9)) c = pin (pa c) from rfl) ?_
  refine lv_iconst (v := (-1)) hx hb dX10_isCompared_13 (by decide) ?_
  refine q_pin_eq (o := pa c) (tgt := 83) hx hb dX10_isCompared_14 (by decide) (fun i9 h9 => by have := hpn _ _ hc9 h9; omega) (fun c_14 => ?_) (fun q7 c_14 => ?_)
  · skip
    have hCc : CC c = true := (hCq c hc9).mpr (fun q9 e9 => by rw [c_14] at e9; exact nomatch e9)
    refine lv_iload hx hb dX10_isCompared_83 (lv_at hl 1 rfl) ?_
    exact W.zret (v := nI b) hx hb hr (by rcases (show b = 0 ∨ b = 1 by omega) with h8 | h8 <;> rw [h8] <;> rfl) (fun t9 ht hW => ⟨⟨nI b, (oa, ta, u1, u2, u3), rfl, (by by_cases h8 : b = 1; (rw [if_pos (hbC.mpr ⟨h8, hCc⟩), h8]; rfl); (rw [if_neg (fun h => h8 (hbC.mp h).1), show b = 0 by omega]; rfl)), by show va_P D vwCl _ t9.heap; rw [ht]; exact hP⟩, hS.F ht⟩) hS.2.2 dX10_isCompared_85
  · skip
    have hq7 := hpn _ _ hc9 c_14
    have hwq := gw_wl (hgw q7 (by omega))
    have hlq := gw_lt (hgw q7 (by omega))
    have hdq := lev_le (ltz a) (ltz (wd q7)) (wl a) (wl (wd q7))
    have hnc := hnb c hc9
    refine lv_aload_n hx hb dX10_isCompared_17 rfl (lv_at hl 2 rfl) ?_
    refine va_get (D := D) (own := RX10) (ref := "FuzzyFensModel") (ci := 9) (v := .ref mnm) (C := RX10) (T := TX10) (N := 15) hx hb hts iX10_isCompared_X10 hown hK hP 0 rfl rfl 5 (by decide) (hts (.fieldLink RX10 20 "FuzzyFensModel" "numbers" "[I") (List.mem_of_getElem? (i := 2) rfl)) (fun _ h9 => h9) rfl dX10_isCompared_18 ?_
    refine lv_iload hx hb dX10_isCompared_21 (lv_at hl 0 rfl) ?_
    refine va_iald (D := D) hx hb hK hR 2 5 rfl rfl (vp_in_nI (n := c) (N := 40) (by omega) (by decide)) dX10_isCompared_23 ?_
    rw [nI_clamp (n := c) (by omega)]
    refine q_cvi (show (fun k9 => nI (nm k9)) c = nI (nm c) from rfl) ?_
    refine lv_aload_n hx hb dX10_isCompared_24 rfl (lv_at hl 2 rfl) ?_
    refine lv_lload_n hx hb dX10_isCompared_25 rfl (lv_at hl 4 rfl) ?_
    refine lv_aload_n hx hb dX10_isCompared_26 rfl (lv_at hl 2 rfl) ?_
    refine va_get (D := D) (own := RX10) (ref := "FuzzyFensModel") (ci := 9) (v := .ref mw) (C := RX10) (T := TX10) (N := 15) hx hb hts iX10_isCompared_X10 hown hK hP 0 rfl rfl 2 (by decide) (hts (.fieldLink RX10 7 "FuzzyFensModel" "words" "[J") (List.mem_of_getElem? (i := 3) rfl)) (fun _ h9 => h9) rfl dX10_isCompared_27 ?_
    refine lv_aload_n hx hb dX10_isCompared_30 rfl (lv_at hl 2 rfl) ?_
    refine va_get (D := D) (own := RX10) (ref := "FuzzyFensModel") (ci := 9) (v := .ref mp) (C := RX10) (T := TX10) (N := 15) hx hb hts iX10_isCompared_X10 hown hK hP 0 rfl rfl 4 (by decide) (hts (.fieldLink RX10 17 "FuzzyFensModel" "parents" "[I") (List.mem_of_getElem? (i := 1) rfl)) (fun _ h9 => h9) rfl dX10_isCompared_31 ?_
    refine lv_iload hx hb dX10_isCompared_34 (lv_at hl 0 rfl) ?_
    refine va_iald (D := D) hx hb hK hR 1 4 rfl rfl (vp_in_nI (n := c) (N := 40) (by omega) (by decide)) dX10_isCompared_36 ?_
    rw [nI_clamp (n := c) (by omega)]
    refine q_cvi (show (fun k9 => pin (pa k9)) c = pin (pa c) from rfl) ?_
    refine q_cvi (show (pin (pa c)) = (nI q7) from (by rw [c_14]; rfl)) ?_
    refine va_lald (D := D) hx hb hK hR 0 3 rfl rfl (vp_in_nI (n := q7) (N := 40) (by omega) (by decide)) dX10_isCompared_37 ?_
    rw [nI_clamp (n := q7) (by omega)]
    refine q_cvl (show (fun k9 => lN (wd k9)) q7 = lN (wd q7) from rfl) ?_
    have hF := va_free (wc := [(mo, .inr (9, [.int th, .int (nI n), .ref mw, .ref mct, .ref mp, .ref mnm, .ref m1, .ref m2, .int oa, .int ta, .ref mt, .ref mk, .ref mr, .ref ml, .ref mq])), (m1, .inl (k5, 11, .inl u1)), (m2, .inl (k6, 11, .inl u2)), (mt, .inl (k7, 121, .inl u3))]) hD hS hA [0, 1, 2, 3] rfl
    refine va_calli (va_runV (As := [.long (lN a), .long (lN (wd q7))]) (rest := [.int (nI (nm c))]) ⟨hx, hb, hml, hown, hts⟩ (c_X10_apart (l := l) (D := D) (mo := mo) (mw := mw) (mct := mct) (mp := mp) (mnm := mnm) (m1 := m1) (m2 := m2) (mt := mt) (mk := mk) (mr := mr) (ml := ml) (mq := mq) (k5 := k5) (k6 := k6) (k7 := k7) (th := th) (n := n) (om := oa) (tm := ta) (f1 := u1) (f2 := u2) (ft := u3) (a := a) (b := wd q7) (sz := H.size) (hnd := (q_nds hnd [0, 1, 2, 3] rfl rfl)) (hwa := hwa) (hwb := hwq) (hla := by omega) (hlb := by omega)) (cwV 2 hts gX10_isCompared_X10_apart rfl rfl rfl (by decide +kernel) ⟨Nat.le_of_ble_eq_true rfl, Nat.le_of_ble_eq_true rfl⟩) ⟨qW_blind, (va_recv hK hP (ci := 9) (q0 := 0) rfl rfl), (qW_of (q_Pof (fun _ h => absurd h List.not_mem_nil)) (hP.sub (ws' := [(mo, .inr (9, [.int th, .int (nI n), .ref mw, .ref mct, .ref mp, .ref mnm, .ref m1, .ref m2, .int oa, .int ta, .ref mt, .ref mk, .ref mr, .ref ml, .ref mq])), (m1, .inl (k5, 11, .inl u1)), (m2, .inl (k6, 11, .inl u2)), (mt, .inl (k7, 121, .inl u3))]) [0, 1, 2, 3] rfl) (hK.sub (tys' := [(k5, .int), (k6, .int), (k7, .int)]) [0, 1, 2] rfl) hNw)⟩ rfl rfl hl.1 rfl (lv_room (Nat.le_of_ble_eq_true rfl)) dX10_isCompared_38 ⟨Nat.le_of_ble_eq_true rfl, Nat.le_of_ble_eq_true rfl⟩) hS (fun q _ h => hF q h) hF (fun r_1 u_5 t_4 H_2 locs_3 ht hvm hr_1 hB hz1 hk1 hS => ?_)
    obtain ⟨g1_6, g2_7, g3_8⟩ := u_5
    dsimp only at hr_1 hB
    replace hB : va_P D vwCl [(mo, .inr (9, [.int th, .int (nI n), .ref mw, .ref mct, .ref mp, .ref mnm, .ref m1, .ref m2, .int (nI (wl a)), .int (nI (wl (wd q7))), .ref mt, .ref mk, .ref mr, .ref ml, .ref mq])), (m1, .inl (k5, 11, .inl g1_6)), (m2, .inl (k6, 11, .inl g2_7)), (mt, .inl (k7, 121, .inl g3_8))] H_2 := by rw [← ht]; exact hB
    obtain ⟨hP, hD⟩ := q_join (wc := [(mo, .inr (9, [.int th, .int (nI n), .ref mw, .ref mct, .ref mp, .ref mnm, .ref m1, .ref m2, .int oa, .int ta, .ref mt, .ref mk, .ref mr, .ref ml, .ref mq])), (m1, .inl (k5, 11, .inl u1)), (m2, .inl (k6, 11, .inl u2)), (mt, .inl (k7, 121, .inl u3))]) (w1 := [(mo, .inr (9, [.int th, .int (nI n), .ref mw, .ref mct, .ref mp, .ref mnm, .ref m1, .ref m2, .int (nI (wl a)), .int (nI (wl (wd q7))), .ref mt, .ref mk, .ref mr, .ref ml, .ref mq])), (m1, .inl (k5, 11, .inl g1_6)), (m2, .inl (k6, 11, .inl g2_7)), (mt, .inl (k7, 121, .inl g3_8))]) (ws' := [(mo, .inr (9, [.int th, .int (nI n), .ref mw, .ref mct, .ref mp, .ref mnm, .ref m1, .ref m2, .int (nI (wl a)), .int (nI (wl (wd q7))), .ref mt, .ref mk, .ref mr, .ref ml, .ref mq])), (m1, .inl (k5, 11, .inl g1_6)), (m2, .inl (k6, 11, .inl g2_7)), (mt, .inl (k7, 121, .inl g3_8))]) [0, 1, 2, 3] hP hD rfl rfl hk1 hB rfl
    have hR := q_ro hR0 hna hS
    subst hr_1
    refine q_cvi (show (nI (lev (ltz a) (ltz (wd q7)) (wl a) (wl (wd q7)))) = (nI (dst wd a q7)) from rfl) ?_
    refine lv_isub hx hb dX10_isCompared_41 ?_
    refine lv_istore (lv' := [(7, .int ((nI (nm c)) - (nI (dst wd a q7)))), (6, .int (nI c)), (5, .int (nI b)), (0, .ref mo), (1, .int (nI p9)), (2, .long (lN a)), (4, .int (nI k))]) hx hb dX10_isCompared_42 hl (by decide) rfl (fun ls hl => ?_)
    refine lv_iload hx hb dX10_isCompared_44 (lv_at hl 2 rfl) ?_
    have hdd : dst wd a q7 ≤ 20 := Nat.le_trans hdq (by omega)
    refine q_cut 69 (fun (x : (Nat)) (Hc : Heap) (Lc : List Loc) (ls : Array Slot) (st : List Value) => match x with | b2 => (b2 ≤ 1) ∧ (b2 = 1 ↔ (b = 1 ∧ (nm c ≤ dst wd a q7 + k ∧ dst wd a q7 ≤ nm c + k))) ∧ H_2 = Hc ∧ locs_3 = Lc ∧ lv_has ls 8 [(7, .int ((nI (nm c)) - (nI (dst wd a q7)))), (6, .int (nI c)), (5, .int (nI b)), (0, .ref mo), (1, .int (nI p9)), (2, .long (lN a)), (4, .int (nI k))] ∧ [.int (nI b2)] = st) ?_ ?_
    · clear hl
      rintro b2 Hc Lc ls st hI
      obtain ⟨h3, h4, rfl, rfl, hl, rfl⟩ := hI
      refine lv_istore (lv' := [(5, .int (nI b2)), (7, .int ((nI (nm c)) - (nI (dst wd a q7)))), (6, .int (nI c)), (0, .ref mo), (1, .int (nI p9)), (2, .long (lN a)), (4, .int (nI k))]) hx hb dX10_isCompared_69 hl (by decide) rfl (fun ls hl => ?_)
      refine lv_aload_n hx hb dX10_isCompared_71 rfl (lv_at hl 3 rfl) ?_
      refine va_get (D := D) (own := RX10) (ref := "FuzzyFensModel") (ci := 9) (v := .ref mp) (C := RX10) (T := TX10) (N := 15) hx hb hts iX10_isCompared_X10 hown hK hP 0 rfl rfl 4 (by decide) (hts (.fieldLink RX10 17 "FuzzyFensModel" "parents" "[I") (List.mem_of_getElem? (i := 1) rfl)) (fun _ h9 => h9) rfl dX10_isCompared_72 ?_
      refine lv_iload hx hb dX10_isCompared_75 (lv_at hl 2 rfl) ?_
      refine va_iald (D := D) hx hb hK hR 1 4 rfl rfl (vp_in_nI (n := c) (N := 40) (by omega) (by decide)) dX10_isCompared_77 ?_
      rw [nI_clamp (n := c) (by omega)]
      refine q_cvi (show (fun k9 => pin (pa k9)) c = pin (pa c) from rfl) ?_
      refine q_cvi (show (pin (pa c)) = (nI q7) from (by rw [c_14]; rfl)) ?_
      refine lv_istore (lv' := [(6, .int (nI q7)), (5, .int (nI b2)), (7, .int ((nI (nm c)) - (nI (dst wd a q7)))), (0, .ref mo), (1, .int (nI p9)), (2, .long (lN a)), (4, .int (nI k))]) hx hb dX10_isCompared_78 hl (by decide) rfl (fun ls hl => ?_)
      refine lv_goto (tgt := 6) hx hb dX10_isCompared_80 (by decide) ?_
      exact ih_6 (q7, b2, nI (wl a), nI (wl (wd q7)), g1_6, g2_7, g3_8) _ _ _ ⟨(by omega), h3, (by rw [hbC, hCq c hc9, h4]; constructor; (intro h9; have := h9.2 _ c_14; exact ⟨⟨h9.1, this.2.1, this.2.2⟩, this.1⟩); (intro h9; refine ⟨h9.1.1, fun q9 e9 => ?_⟩; rw [c_14] at e9; cases e9; exact ⟨h9.2, h9.1.2.1, h9.1.2.2⟩)), hP, hD, hS, (lv_sub hl [0, 1, 3, 4, 5, 6] rfl)⟩ (by show q7 < c; omega)
    · intro hcut_69
      have hdd : dst wd a q7 ≤ 20 := Nat.le_trans hdq (by omega)
      refine q_if_eq (a := b) (tgt := 68) hx hb dX10_isCompared_46 (by decide) (by omega) (fun c_46 => ?_) (fun c_46 => ?_)
      · skip
        refine lv_iconst (v := nI 0) hx hb dX10_isCompared_68 (by decide) ?_
        exact hcut_69 0 _ _ _ _ ⟨(by omega), (by omega), rfl, rfl, (lv_sub hl [0, 1, 2, 3, 4, 5, 6] rfl), rfl⟩
      · skip
        refine lv_iload hx hb dX10_isCompared_49 (lv_at hl 0 rfl) ?_
        refine lv_iload hx hb dX10_isCompared_51 (lv_at hl 6 rfl) ?_
        refine lv_icmp_gt (tgt := 68) hx hb dX10_isCompared_53 (by decide) (fun c_53 => ?_) (fun c_53 => ?_)
        · skip
          rw [q_gk (by omega) (by omega) (by omega)] at c_53
          refine lv_iconst (v := nI 0) hx hb dX10_isCompared_68 (by decide) ?_
          exact hcut_69 0 _ _ _ _ ⟨(by omega), (by omega), rfl, rfl, (lv_sub hl [0, 1, 2, 3, 4, 5, 6] rfl), rfl⟩
        · skip
          rw [q_gk (by omega) (by omega) (by omega)] at c_53
          refine lv_iload hx hb dX10_isCompared_56 (lv_at hl 0 rfl) ?_
          refine lv_iload hx hb dX10_isCompared_58 (lv_at hl 6 rfl) ?_
          refine lv_ineg hx hb dX10_isCompared_60 ?_
          refine lv_icmp_lt (tgt := 68) hx hb dX10_isCompared_61 (by decide) (fun c_61 => ?_) (fun c_61 => ?_)
          · skip
            rw [q_lk (by omega) (by omega) (by omega)] at c_61
            refine lv_iconst (v := nI 0) hx hb dX10_isCompared_68 (by decide) ?_
            exact hcut_69 0 _ _ _ _ ⟨(by omega), (by omega), rfl, rfl, (lv_sub hl [0, 1, 2, 3, 4, 5, 6] rfl), rfl⟩
          · skip
            rw [q_lk (by omega) (by omega) (by omega)] at c_61
            refine lv_iconst (v := nI 1) hx hb dX10_isCompared_64 (by decide) ?_
            refine lv_goto (tgt := 69) hx hb dX10_isCompared_65 (by decide) ?_
            exact hcut_69 1 _ _ _ _ ⟨(by omega), (by omega), rfl, rfl, (lv_sub hl [0, 1, 2, 3, 4, 5, 6] rfl), rfl⟩

set_option maxRecDepth 20000 in
theorem iX10_treeCompared_X10 : ∀ w ∈ wsX100, w ∈ wsX10_treeCompared := by decide +kernel
set_option maxHeartbeats 4000000 in
set_option maxRecDepth 100000 in
/-- treeCompared -/
theorem c_X10_treeCompared (l : Launch) (D : va_G) (sz : Nat) (mo : Nat) (mw : Nat) (mct : Nat) (mp : Nat) (mnm : Nat) (m1 : Nat) (m2 : Nat) (mt : Nat) (mk : Nat) (mr : Nat) (ml : Nat) (mq : Nat) (k1 : ClassId) (k3 : ClassId) (k4 : ClassId) (k5 : ClassId) (k6 : ClassId) (k7 : ClassId) (th : Int32) (n : Nat) (om : Int32) (tm : Int32) (f1 : Nat → Int32) (f2 : Nat → Int32) (ft : Nat → Int32) (wd : Nat → Nat) (pa : Nat → Option Nat) (nm : Nat → Nat) (a : Nat) (CC : Nat → Bool) (x9 : Int32) (hnd : ([mo, m1, m2, mt] ++ [mw, mp, mnm]).Nodup) (ha : a < 2 ^ 64) (hn40 : n ≤ 40) (hgw : ∀ k, k < n → gw (wd k)) (hpn : ∀ k i, k < n → pa k = some i → i < k) (hnb : ∀ k, k < n → nm k ≤ 20) (hCq : ∀ i, i < n → (CC i = true ↔ ∀ q, pa i = some q → (CC q = true ∧ nm i ≤ dst wd a q + kz x9 ∧ dst wd a q ≤ nm i + kz x9))) : Met l yX10_treeCompared wsX10_treeCompared { frames := 5, cells := 0, slots := 0, locals := 127 } (va_Pc [.ref mo, .long (lN a), .int x9] (qW D sz ([(mw, .inl (k1, 40, .inr (.inl (fun k9 => lN (wd k9))))), (mp, .inl (k3, 40, .inl (fun k9 => pin (pa k9)))), (mnm, .inl (k4, 40, .inl (fun k9 => nI (nm k9))))]) [(mo, .inr (9, [.int th, .int (nI n), .ref mw, .ref mct, .ref mp, .ref mnm, .ref m1, .ref m2, .int om, .int tm, .ref mt, .ref mk, .ref mr, .ref ml, .ref mq])), (m1, .inl (k5, 11, .inl f1)), (m2, .inl (k6, 11, .inl f2)), (mt, .inl (k7, 121, .inl ft))] [(k5, .int), (k6, .int), (k7, .int), (k1, .long), (k3, .int), (k4, .int)])) (va_Qi (fun (rv : Int32) (uv : (Int32) × (Int32) × (Int32) × (Nat → Int32) × (Nat → Int32) × (Nat → Int32)) => uv.1 = nI (if gw a ∧ 0 ≤ x9 ∧ x9 ≤ nI 3 then 0 else 1) ∧ (gw a ∧ 0 ≤ x9 ∧ x9 ≤ nI 3 → rv = nI (cnt CC n))) (fun (uv : (Int32) × (Int32) × (Int32) × (Nat → Int32) × (Nat → Int32) × (Nat → Int32)) (tv : State) => va_P D vwCl [(mo, .inr (9, [.int uv.1, .int (nI n), .ref mw, .ref mct, .ref mp, .ref mnm, .ref m1, .ref m2, .int uv.2.1, .int uv.2.2.1, .ref mt, .ref mk, .ref mr, .ref ml, .ref mq])), (m1, .inl (k5, 11, .inl uv.2.2.2.1)), (m2, .inl (k6, 11, .inl uv.2.2.2.2.1)), (mt, .inl (k7, 121, .inl uv.2.2.2.2.2))] tv.heap) (va_A [(mo, .inr (9, [.int th, .int (nI n), .ref mw, .ref mct, .ref mp, .ref mnm, .ref m1, .ref m2, .int om, .int tm, .ref mt, .ref mk, .ref mr, .ref ml, .ref mq])), (m1, .inl (k5, 11, .inl f1)), (m2, .inl (k6, 11, .inl f2)), (mt, .inl (k7, 121, .inl ft))] sz)) 0 0 (va_A [(mo, .inr (9, [.int th, .int (nI n), .ref mw, .ref mct, .ref mp, .ref mnm, .ref m1, .ref m2, .int om, .int tm, .ref mt, .ref mk, .ref mr, .ref ml, .ref mq])), (m1, .inl (k5, 11, .inl f1)), (m2, .inl (k6, 11, .inl f2)), (mt, .inl (k7, 121, .inl ft))] sz) := by
  refine Met.ofW (cc := cX10_treeCompared) (maxL := 6) (ret := (some .int)) (by decide) rfl ?_
  intro pM eM s mi9 argsM belowM methM cM sM B hml hv
  obtain ⟨rfl, hsz, hR0, hP, hK, hNw⟩ := hv
  have hx := B.exec
  have hb := B.bytes
  have hr := B.returns
  have hts := atoms_spec (ws := wsX10_treeCompared) B.pre
  have hown : s.vm.findClass RX10 = some mi9.cls := findClass_of_methodNamed B.named
  have hlocks := B.notSynchronized
  subst hsz
  have hna := q_na (RW := [(mo, .inr (9, [.int th, .int (nI n), .ref mw, .ref mct, .ref mp, .ref mnm, .ref m1, .ref m2, .int om, .int tm, .ref mt, .ref mk, .ref mr, .ref ml, .ref mq])), (m1, .inl (k5, 11, .inl f1)), (m2, .inl (k6, 11, .inl f2)), (mt, .inl (k7, 121, .inl ft))]) (RO := [(mw, .inl (k1, 40, .inr (.inl (fun k9 => lN (wd k9))))), (mp, .inl (k3, 40, .inl (fun k9 => pin (pa k9)))), (mnm, .inl (k4, 40, .inl (fun k9 => nI (nm k9))))]) hnd rfl rfl hR0
  have hD := q_D (RW := [(mo, .inr (9, [.int th, .int (nI n), .ref mw, .ref mct, .ref mp, .ref mnm, .ref m1, .ref m2, .int om, .int tm, .ref mt, .ref mk, .ref mr, .ref ml, .ref mq])), (m1, .inl (k5, 11, .inl f1)), (m2, .inl (k6, 11, .inl f2)), (mt, .inl (k7, 121, .inl ft))]) (sz := s.heap.size) hnd rfl
  have hA : ∀ q : Nat, s.heap.size ≤ q → va_A [(mo, .inr (9, [.int th, .int (nI n), .ref mw, .ref mct, .ref mp, .ref mnm, .ref m1, .ref m2, .int om, .int tm, .ref mt, .ref mk, .ref mr, .ref ml, .ref mq])), (m1, .inl (k5, 11, .inl f1)), (m2, .inl (k6, 11, .inl f2)), (mt, .inl (k7, 121, .inl ft))] s.heap.size q := fun q h => Or.inr h
  generalize hAe : va_A [(mo, .inr (9, [.int th, .int (nI n), .ref mw, .ref mct, .ref mp, .ref mnm, .ref m1, .ref m2, .int om, .int tm, .ref mt, .ref mk, .ref mr, .ref ml, .ref mq])), (m1, .inl (k5, 11, .inl f1)), (m2, .inl (k6, 11, .inl f2)), (mt, .inl (k7, 121, .inl ft))] s.heap.size = A at hna hD hA ⊢
  have hS : va_S A s.heap s.heap [] := va_S.rf
  have hR := hR0
  have hP : va_P D vwCl [(mo, .inr (9, [.int th, .int (nI n), .ref mw, .ref mct, .ref mp, .ref mnm, .ref m1, .ref m2, .int om, .int tm, .ref mt, .ref mk, .ref mr, .ref ml, .ref mq])), (m1, .inl (k5, 11, .inl f1)), (m2, .inl (k6, 11, .inl f2)), (mt, .inl (k7, 121, .inl ft))] s.heap := hP
  have hl := lv_entry ([.ref mo, .long (lN a), .int x9]) (n := 6) (Nat.le_of_ble_eq_true rfl)
  rw [lg_entry_eq]
  generalize (lg_sl ([.ref mo, .long (lN a), .int x9]) ++ List.replicate (6 - (lg_sl ([.ref mo, .long (lN a), .int x9])).length) Slot.unset).toArray = ls at hl ⊢
  have hl : lv_has ls 6 [(0, .ref mo), (1, .long (lN a)), (3, .int x9)] := hl
  refine lv_aload_n hx hb dX10_treeCompared_0 rfl (lv_at hl 0 rfl) ?_
  refine lv_lload_n hx hb dX10_treeCompared_1 rfl (lv_at hl 1 rfl) ?_
  refine lv_iload_n hx hb dX10_treeCompared_2 rfl (lv_at hl 2 rfl) ?_
  refine lv_iconst (v := nI 3) hx hb dX10_treeCompared_3 (by decide) ?_
  refine vp_callSi (W.runS (As := [.long (lN a), .int x9, .int (nI 3)]) (rest := [.ref mo]) ⟨hx, hb, hml, hown, hts⟩ (c_X10_isSearch (l := l) (D := D) (a := a) (x9 := x9) (mm := 3) (ha := ha)) (va_cwS 3 hts gX10_treeCompared_X10_isSearch rfl rfl rfl (by decide +kernel) ⟨Nat.le_of_ble_eq_true rfl, Nat.le_of_ble_eq_true rfl⟩) ⟨qP_blind, (qP_of (q_Pof (fun _ h => absurd h List.not_mem_nil)) (hK.sub (tys' := []) [] rfl) hNw)⟩ rfl rfl hl.1 rfl (lv_room (Nat.le_of_ble_eq_true rfl)) dX10_treeCompared_4 ⟨Nat.le_of_ble_eq_true rfl, Nat.le_of_ble_eq_true rfl⟩) (fun r_1 hr_1 => ?_)
  subst hr_1
  refine q_ifb_eq (tgt := 14) hx hb dX10_treeCompared_7 (by decide) (fun c_7 => ?_) (fun c_7 => ?_)
  · skip
    refine lv_iconst (v := nI 1) hx hb dX10_treeCompared_14 (by decide) ?_
    have hF := va_free (wc := [(mo, .inr (9, [.int th, .int (nI n), .ref mw, .ref mct, .ref mp, .ref mnm, .ref m1, .ref m2, .int om, .int tm, .ref mt, .ref mk, .ref mr, .ref ml, .ref mq]))]) hD hS hA [0] rfl
    refine va_calli (va_runV (As := [.int (nI 1)]) (rest := []) ⟨hx, hb, hml, hown, hts⟩ (c_X10_goesWell (l := l) (D := D) (mo := mo) (mw := mw) (mct := mct) (mp := mp) (mnm := mnm) (m1 := m1) (m2 := m2) (mt := mt) (mk := mk) (mr := mr) (ml := ml) (mq := mq) (th := th) (n := n) (om := om) (tm := tm) (x9 := 1) (sz := s.heap.size) (hnd := (q_nds hnd [0] rfl rfl)) (hx9 := by omega)) (cwV 1 hts gX10_treeCompared_X10_goesWell rfl rfl rfl (by decide +kernel) ⟨Nat.le_of_ble_eq_true rfl, Nat.le_of_ble_eq_true rfl⟩) ⟨qW_blind, (va_recv hK hP (ci := 9) (q0 := 0) rfl rfl), (qW_of (q_Pof (fun _ h => absurd h List.not_mem_nil)) (hP.sub (ws' := [(mo, .inr (9, [.int th, .int (nI n), .ref mw, .ref mct, .ref mp, .ref mnm, .ref m1, .ref m2, .int om, .int tm, .ref mt, .ref mk, .ref mr, .ref ml, .ref mq]))]) [0] rfl) (hK.sub (tys' := []) [] rfl) hNw)⟩ rfl rfl hl.1 rfl (lv_room (Nat.le_of_ble_eq_true rfl)) dX10_treeCompared_15 ⟨Nat.le_of_ble_eq_true rfl, Nat.le_of_ble_eq_true rfl⟩) hS (fun q _ h => hF q h) hF (fun r_2 u_6 t_5 H_3 locs_4 ht hvm hr_2 hB hz1 hk1 hS => ?_)
    replace hB : va_P D vwCl [(mo, .inr (9, [.int (nI 1), .int (nI n), .ref mw, .ref mct, .ref mp, .ref mnm, .ref m1, .ref m2, .int om, .int tm, .ref mt, .ref mk, .ref mr, .ref ml, .ref mq]))] H_3 := by rw [← ht]; exact hB
    obtain ⟨hP, hD⟩ := q_join (wc := [(mo, .inr (9, [.int th, .int (nI n), .ref mw, .ref mct, .ref mp, .ref mnm, .ref m1, .ref m2, .int om, .int tm, .ref mt, .ref mk, .ref mr, .ref ml, .ref mq]))]) (w1 := [(mo, .inr (9, [.int (nI 1), .int (nI n), .ref mw, .ref mct, .ref mp, .ref mnm, .ref m1, .ref m2, .int om, .int tm, .ref mt, .ref mk, .ref mr, .ref ml, .ref mq]))]) (ws' := [(mo, .inr (9, [.int (nI 1), .int (nI n), .ref mw, .ref mct, .ref mp, .ref mnm, .ref m1, .ref m2, .int om, .int tm, .ref mt, .ref mk, .ref mr, .ref ml, .ref mq])), (m1, .inl (k5, 11, .inl f1)), (m2, .inl (k6, 11, .inl f2)), (mt, .inl (k7, 121, .inl ft))]) [0] hP hD rfl rfl hk1 hB rfl
    have hR := q_ro hR0 hna hS
    subst hr_2
    refine q_ifb_ne (tgt := 23) hx hb dX10_treeCompared_18 (by decide) (fun c9 => absurd c9 (by decide)) (fun _ => ?_)
    refine lv_iconst (v := nI 0) hx hb dX10_treeCompared_21 (by decide) ?_
    exact W.iret (v := nI 0) hx hb hr (fun t9 ht hW => ⟨⟨nI 0, (nI 1, om, tm, f1, f2, ft), rfl, ⟨(by rw [if_neg c_7]), (fun h9 => absurd h9 c_7)⟩, by show va_P D vwCl _ t9.heap; rw [ht]; exact hP⟩, hS.F ht⟩) hS.2.2 dX10_treeCompared_22
  · skip
    refine lv_iconst (v := nI 0) hx hb dX10_treeCompared_10 (by decide) ?_
    refine lv_goto (tgt := 15) hx hb dX10_treeCompared_11 (by decide) ?_
    have hF := va_free (wc := [(mo, .inr (9, [.int th, .int (nI n), .ref mw, .ref mct, .ref mp, .ref mnm, .ref m1, .ref m2, .int om, .int tm, .ref mt, .ref mk, .ref mr, .ref ml, .ref mq]))]) hD hS hA [0] rfl
    refine va_calli (va_runV (As := [.int (nI 0)]) (rest := []) ⟨hx, hb, hml, hown, hts⟩ (c_X10_goesWell (l := l) (D := D) (mo := mo) (mw := mw) (mct := mct) (mp := mp) (mnm := mnm) (m1 := m1) (m2 := m2) (mt := mt) (mk := mk) (mr := mr) (ml := ml) (mq := mq) (th := th) (n := n) (om := om) (tm := tm) (x9 := 0) (sz := s.heap.size) (hnd := (q_nds hnd [0] rfl rfl)) (hx9 := by omega)) (cwV 1 hts gX10_treeCompared_X10_goesWell rfl rfl rfl (by decide +kernel) ⟨Nat.le_of_ble_eq_true rfl, Nat.le_of_ble_eq_true rfl⟩) ⟨qW_blind, (va_recv hK hP (ci := 9) (q0 := 0) rfl rfl), (qW_of (q_Pof (fun _ h => absurd h List.not_mem_nil)) (hP.sub (ws' := [(mo, .inr (9, [.int th, .int (nI n), .ref mw, .ref mct, .ref mp, .ref mnm, .ref m1, .ref m2, .int om, .int tm, .ref mt, .ref mk, .ref mr, .ref ml, .ref mq]))]) [0] rfl) (hK.sub (tys' := []) [] rfl) hNw)⟩ rfl rfl hl.1 rfl (lv_room (Nat.le_of_ble_eq_true rfl)) dX10_treeCompared_15 ⟨Nat.le_of_ble_eq_true rfl, Nat.le_of_ble_eq_true rfl⟩) hS (fun q _ h => hF q h) hF (fun r_7 u_11 t_10 H_8 locs_9 ht hvm hr_7 hB hz1 hk1 hS => ?_)
    replace hB : va_P D vwCl [(mo, .inr (9, [.int (nI 0), .int (nI n), .ref mw, .ref mct, .ref mp, .ref mnm, .ref m1, .ref m2, .int om, .int tm, .ref mt, .ref mk, .ref mr, .ref ml, .ref mq]))] H_8 := by rw [← ht]; exact hB
    obtain ⟨hP, hD⟩ := q_join (wc := [(mo, .inr (9, [.int th, .int (nI n), .ref mw, .ref mct, .ref mp, .ref mnm, .ref m1, .ref m2, .int om, .int tm, .ref mt, .ref mk, .ref mr, .ref ml, .ref mq]))]) (w1 := [(mo, .inr (9, [.int (nI 0), .int (nI n), .ref mw, .ref mct, .ref mp, .ref mnm, .ref m1, .ref m2, .int om, .int tm, .ref mt, .ref mk, .ref mr, .ref ml, .ref mq]))]) (ws' := [(mo, .inr (9, [.int (nI 0), .int (nI n), .ref mw, .ref mct, .ref mp, .ref mnm, .ref m1, .ref m2, .int om, .int tm, .ref mt, .ref mk, .ref mr, .ref ml, .ref mq])), (m1, .inl (k5, 11, .inl f1)), (m2, .inl (k6, 11, .inl f2)), (mt, .inl (k7, 121, .inl ft))]) [0] hP hD rfl rfl hk1 hB rfl
    have hR := q_ro hR0 hna hS
    subst hr_7
    refine q_ifb_ne (tgt := 23) hx hb dX10_treeCompared_18 (by decide) (fun _ => ?_) (fun c9 => absurd (by decide) c9)
    have hlx := kz_le (by decide) c_7.2.1 c_7.2.2
    have hl : lv_has ls 6 [(0, .ref mo), (1, .long (lN a)), (3, .int (nI (kz x9)))] := (congrArg (fun v9 => lv_has ls 6 [(0, .ref mo), (1, .long (lN a)), (3, .int v9)]) (kz_of c_7.2.1)).mp hl
    refine lv_iconst (v := nI 0) hx hb dX10_treeCompared_23 (by decide) ?_
    refine lv_istore (lv' := [(4, .int (nI 0)), (0, .ref mo), (1, .long (lN a)), (3, .int (nI (kz x9)))]) hx hb dX10_treeCompared_24 hl (by decide) rfl (fun ls hl => ?_)
    refine lv_iconst (v := nI 0) hx hb dX10_treeCompared_26 (by decide) ?_
    refine lv_istore (lv' := [(5, .int (nI 0)), (4, .int (nI 0)), (0, .ref mo), (1, .long (lN a)), (3, .int (nI (kz x9)))]) hx hb dX10_treeCompared_27 hl (by decide) rfl (fun ls hl => ?_)
    refine q_loop (fun (x : (Nat) × (Int32) × (Int32) × (Nat → Int32) × (Nat → Int32) × (Nat → Int32)) (H : Heap) (locs : List Loc) (ls : Array Slot) => match x with | (i, oa, ta, u1, u2, u3) => (i ≤ n) ∧ va_P D vwCl [(mo, .inr (9, [.int (nI 0), .int (nI n), .ref mw, .ref mct, .ref mp, .ref mnm, .ref m1, .ref m2, .int oa, .int ta, .ref mt, .ref mk, .ref mr, .ref ml, .ref mq])), (m1, .inl (k5, 11, .inl u1)), (m2, .inl (k6, 11, .inl u2)), (mt, .inl (k7, 121, .inl u3))] H ∧ va_D A [(mo, .inr (9, [.int (nI 0), .int (nI n), .ref mw, .ref mct, .ref mp, .ref mnm, .ref m1, .ref m2, .int oa, .int ta, .ref mt, .ref mk, .ref mr, .ref ml, .ref mq])), (m1, .inl (k5, 11, .inl u1)), (m2, .inl (k6, 11, .inl u2)), (mt, .inl (k7, 121, .inl u3))] ∧ va_S A s.heap H locs ∧ lv_has ls 6 [(5, .int (nI i)), (4, .int (nI (cnt CC i))), (0, .ref mo), (1, .long (lN a)), (3, .int (nI (kz x9)))]) (fun (x : (Nat) × (Int32) × (Int32) × (Nat → Int32) × (Nat → Int32) × (Nat → Int32)) => match x with | (i, oa, ta, u1, u2, u3) => n - i) (0, om, tm, f1, f2, ft) ⟨(by omega), hP, hD, hS, (lv_sub hl [0, 1, 2, 3, 4] rfl)⟩ ?_
    clear hl
    clear hP hD hS
    rintro ⟨i, oa, ta, u1, u2, u3⟩ H locs ls hI ih_29
    obtain ⟨hi, hP, hD, hS, hl⟩ := hI
    have hR := q_ro hR0 hna hS
    refine lv_iload hx hb dX10_treeCompared_29 (lv_at hl 0 rfl) ?_
    refine lv_aload_n hx hb dX10_treeCompared_31 rfl (lv_at hl 2 rfl) ?_
    refine va_get (D := D) (own := RX10) (ref := "FuzzyFensModel") (ci := 9) (v := .int (nI n)) (C := RX10) (T := TX10) (N := 15) hx hb hts iX10_treeCompared_X10 hown hK hP 0 rfl rfl 1 (by decide) (hts (.fieldLink RX10 77 "FuzzyFensModel" "many" "I") (List.mem_of_getElem? (i := 1) rfl)) (fun _ h9 => h9) rfl dX10_treeCompared_32 ?_
    refine q_icmp_ge (a := i) (b := n) (tgt := 65) hx hb dX10_treeCompared_35 (by decide) (by omega) (by omega) (fun c_35 => ?_) (fun c_35 => ?_)
    · skip
      refine lv_iload hx hb dX10_treeCompared_65 (lv_at hl 1 rfl) ?_
      exact W.iret (v := nI (cnt CC i)) hx hb hr (fun t9 ht hW => ⟨⟨nI (cnt CC i), (nI 0, oa, ta, u1, u2, u3), rfl, ⟨(by rw [if_pos c_7]), (fun _ => by rw [show n = i by omega])⟩, by show va_P D vwCl _ t9.heap; rw [ht]; exact hP⟩, hS.F ht⟩) hS.2.2 dX10_treeCompared_67
    · skip
      refine lv_iload hx hb dX10_treeCompared_38 (lv_at hl 1 rfl) ?_
      refine lv_aload_n hx hb dX10_treeCompared_40 rfl (lv_at hl 2 rfl) ?_
      refine lv_iload hx hb dX10_treeCompared_41 (lv_at hl 0 rfl) ?_
      refine lv_lload_n hx hb dX10_treeCompared_43 rfl (lv_at hl 3 rfl) ?_
      refine lv_iload_n hx hb dX10_treeCompared_44 rfl (lv_at hl 4 rfl) ?_
      have hF := va_free (wc := [(mo, .inr (9, [.int (nI 0), .int (nI n), .ref mw, .ref mct, .ref mp, .ref mnm, .ref m1, .ref m2, .int oa, .int ta, .ref mt, .ref mk, .ref mr, .ref ml, .ref mq])), (m1, .inl (k5, 11, .inl u1)), (m2, .inl (k6, 11, .inl u2)), (mt, .inl (k7, 121, .inl u3))]) hD hS hA [0, 1, 2, 3] rfl
      refine va_calli (va_runV (As := [.int (nI i), .long (lN a), .int (nI (kz x9))]) (rest := [.int (nI (cnt CC i))]) ⟨hx, hb, hml, hown, hts⟩ (c_X10_isCompared (l := l) (D := D) (mo := mo) (mw := mw) (mct := mct) (mp := mp) (mnm := mnm) (m1 := m1) (m2 := m2) (mt := mt) (mk := mk) (mr := mr) (ml := ml) (mq := mq) (k1 := k1) (k3 := k3) (k4 := k4) (k5 := k5) (k6 := k6) (k7 := k7) (th := nI 0) (n := n) (om := oa) (tm := ta) (f1 := u1) (f2 := u2) (ft := u3) (wd := wd) (pa := pa) (nm := nm) (a := a) (CC := CC) (p9 := i) (k := kz x9) (sz := H.size) (hnd := (q_nds hnd [0, 1, 2, 3, 4, 5, 6] rfl rfl)) (hga := c_7.1) (hn40 := hn40) (hgw := by omega) (hpn := by omega) (hnb := by omega) (hCq := hCq) (hp9 := by omega) (hk3 := by omega)) (cwV 3 hts gX10_treeCompared_X10_isCompared rfl rfl rfl (by decide +kernel) ⟨Nat.le_of_ble_eq_true rfl, Nat.le_of_ble_eq_true rfl⟩) ⟨qW_blind, (va_recv hK hP (ci := 9) (q0 := 0) rfl rfl), (qW_of (hR.sub (ws' := [(mw, .inl (k1, 40, .inr (.inl (fun k9 => lN (wd k9))))), (mp, .inl (k3, 40, .inl (fun k9 => pin (pa k9)))), (mnm, .inl (k4, 40, .inl (fun k9 => nI (nm k9))))]) [0, 1, 2] rfl) (hP.sub (ws' := [(mo, .inr (9, [.int (nI 0), .int (nI n), .ref mw, .ref mct, .ref mp, .ref mnm, .ref m1, .ref m2, .int oa, .int ta, .ref mt, .ref mk, .ref mr, .ref ml, .ref mq])), (m1, .inl (k5, 11, .inl u1)), (m2, .inl (k6, 11, .inl u2)), (mt, .inl (k7, 121, .inl u3))]) [0, 1, 2, 3] rfl) (hK.sub (tys' := [(k5, .int), (k6, .int), (k7, .int), (k1, .long), (k3, .int), (k4, .int)]) [0, 1, 2, 3, 4, 5] rfl) hNw)⟩ rfl rfl hl.1 rfl (lv_room (Nat.le_of_ble_eq_true rfl)) dX10_treeCompared_45 ⟨Nat.le_of_ble_eq_true rfl, Nat.le_of_ble_eq_true rfl⟩) hS (fun q _ h => hF q h) hF (fun r_12 u_16 t_15 H_13 locs_14 ht hvm hr_12 hB hz1 hk1 hS => ?_)
      obtain ⟨o2_17, q2_18, g1_19, g2_20, g3_21⟩ := u_16
      dsimp only at hr_12 hB
      replace hB : va_P D vwCl [(mo, .inr (9, [.int (nI 0), .int (nI n), .ref mw, .ref mct, .ref mp, .ref mnm, .ref m1, .ref m2, .int o2_17, .int q2_18, .ref mt, .ref mk, .ref mr, .ref ml, .ref mq])), (m1, .inl (k5, 11, .inl g1_19)), (m2, .inl (k6, 11, .inl g2_20)), (mt, .inl (k7, 121, .inl g3_21))] H_13 := by rw [← ht]; exact hB
      obtain ⟨hP, hD⟩ := q_join (wc := [(mo, .inr (9, [.int (nI 0), .int (nI n), .ref mw, .ref mct, .ref mp, .ref mnm, .ref m1, .ref m2, .int oa, .int ta, .ref mt, .ref mk, .ref mr, .ref ml, .ref mq])), (m1, .inl (k5, 11, .inl u1)), (m2, .inl (k6, 11, .inl u2)), (mt, .inl (k7, 121, .inl u3))]) (w1 := [(mo, .inr (9, [.int (nI 0), .int (nI n), .ref mw, .ref mct, .ref mp, .ref mnm, .ref m1, .ref m2, .int o2_17, .int q2_18, .ref mt, .ref mk, .ref mr, .ref ml, .ref mq])), (m1, .inl (k5, 11, .inl g1_19)), (m2, .inl (k6, 11, .inl g2_20)), (mt, .inl (k7, 121, .inl g3_21))]) (ws' := [(mo, .inr (9, [.int (nI 0), .int (nI n), .ref mw, .ref mct, .ref mp, .ref mnm, .ref m1, .ref m2, .int o2_17, .int q2_18, .ref mt, .ref mk, .ref mr, .ref ml, .ref mq])), (m1, .inl (k5, 11, .inl g1_19)), (m2, .inl (k6, 11, .inl g2_20)), (mt, .inl (k7, 121, .inl g3_21))]) [0, 1, 2, 3] hP hD rfl rfl hk1 hB rfl
      have hR := q_ro hR0 hna hS
      subst hr_12
      refine q_cut 56 (fun (x : (Nat)) (Hc : Heap) (Lc : List Loc) (ls : Array Slot) (st : List Value) => match x with | z => (cnt CC i + z = cnt CC (i + 1)) ∧ H_13 = Hc ∧ locs_14 = Lc ∧ lv_has ls 6 [(5, .int (nI i)), (4, .int (nI (cnt CC i))), (0, .ref mo), (1, .long (lN a)), (3, .int (nI (kz x9)))] ∧ [.int (nI z), .int (nI (cnt CC i))] = st) ?_ ?_
      · clear hl
        rintro z Hc Lc ls st hI
        obtain ⟨hz, rfl, rfl, hl, rfl⟩ := hI
        refine q_iadd (d := cnt CC i + z) hx hb dX10_treeCompared_56 (by omega) ?_
        refine q_cvi (show (nI (cnt CC i + z)) = (nI (cnt CC (i + 1))) from (by rw [hz])) ?_
        refine lv_istore (lv' := [(4, .int (nI (cnt CC (i + 1)))), (5, .int (nI i)), (0, .ref mo), (1, .long (lN a)), (3, .int (nI (kz x9)))]) hx hb dX10_treeCompared_57 hl (by decide) rfl (fun ls hl => ?_)
        refine lv_iinc (v := nI (i + 1)) (lv' := [(5, .int (nI (i + 1))), (4, .int (nI (cnt CC (i + 1)))), (0, .ref mo), (1, .long (lN a)), (3, .int (nI (kz x9)))]) hx hb dX10_treeCompared_59 hl (k := 1) rfl (q_inc (k := 1) (by omega)) (by decide) rfl (fun ls hl => ?_)
        refine lv_goto (tgt := 29) hx hb dX10_treeCompared_62 (by decide) ?_
        exact ih_29 (i + 1, o2_17, q2_18, g1_19, g2_20, g3_21) _ _ _ ⟨(by omega), hP, hD, hS, (lv_sub hl [0, 1, 2, 3, 4] rfl)⟩ (by show n - (i + 1) < n - i; omega)
      · intro hcut_56
        refine q_ifb_eq (tgt := 55) hx hb dX10_treeCompared_48 (by decide) (fun c_48 => ?_) (fun c_48 => ?_)
        · skip
          refine lv_iconst (v := nI 0) hx hb dX10_treeCompared_55 (by decide) ?_
          exact hcut_56 0 _ _ _ _ ⟨(cnt_f c_48).symm, rfl, rfl, (lv_sub hl [0, 1, 2, 3, 4] rfl), rfl⟩
        · skip
          refine lv_iconst (v := nI 1) hx hb dX10_treeCompared_51 (by decide) ?_
          refine lv_goto (tgt := 56) hx hb dX10_treeCompared_52 (by decide) ?_
          exact hcut_56 1 _ _ _ _ ⟨(cnt_t c_48).symm, rfl, rfl, (lv_sub hl [0, 1, 2, 3, 4] rfl), rfl⟩
