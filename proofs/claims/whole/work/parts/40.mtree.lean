set_option maxRecDepth 20000 in
theorem iX10_correction_X10 : ∀ w ∈ wsX100, w ∈ wsX10_correction := by decide +kernel
set_option maxHeartbeats 4000000 in
set_option maxRecDepth 100000 in
/-- correction -/
theorem c_X10_correction (l : Launch) (D : va_G) (sz : Nat) (mo : Nat) (mw : Nat) (mct : Nat) (mp : Nat) (mnm : Nat) (m1 : Nat) (m2 : Nat) (mt : Nat) (mk : Nat) (mr : Nat) (ml : Nat) (mq : Nat) (k1 : ClassId) (k2 : ClassId) (k5 : ClassId) (k6 : ClassId) (k7 : ClassId) (k8 : ClassId) (th : Int32) (n : Nat) (om : Int32) (tm : Int32) (f1 : Nat → Int32) (f2 : Nat → Int32) (ft : Nat → Int32) (wd : Nat → Nat) (ct : Nat → Nat) (a : Nat) (x9 : Int32) (y9 : Int32) (hnd : ([mo, m1, m2, mt] ++ [mw, mct, mk]).Nodup) (ha : a < 2 ^ 64) (hn40 : n ≤ 40) (hgw : ∀ k, k < n → gw (wd k)) (hcb : ∀ k, k < n → ct k < 2 ^ 31) : Met l yX10_correction wsX10_correction { frames := 6, cells := 0, slots := 0, locals := 149 } (va_Pc [.ref mo, .long (lN a), .int x9, .int y9] (qW D sz ([(mw, .inl (k1, 40, .inr (.inl (fun k9 => lN (wd k9))))), (mct, .inl (k2, 40, .inl (fun k9 => nI (ct k9)))), (mk, .inl (k8, 27, .inl (fun k9 => nI (kyf k9))))]) [(mo, .inr (9, [.int th, .int (nI n), .ref mw, .ref mct, .ref mp, .ref mnm, .ref m1, .ref m2, .int om, .int tm, .ref mt, .ref mk, .ref mr, .ref ml, .ref mq])), (m1, .inl (k5, 11, .inl f1)), (m2, .inl (k6, 11, .inl f2)), (mt, .inl (k7, 121, .inl ft))] [(k5, .int), (k6, .int), (k7, .int), (k1, .long), (k2, .int), (k8, .int)])) (va_Ql (fun (rv : Int64) (uv : (Int32) × (Int32) × (Int32) × (Nat → Int32) × (Nat → Int32) × (Nat → Int32)) => uv.1 = nI (if gw a ∧ 0 ≤ x9 ∧ x9 ≤ nI 3 then (if 0 ≤ y9 ∧ y9 < nI (ccn wd ct a (kz x9) n) then 0 else 2) else 1) ∧ ((gw a ∧ 0 ≤ x9 ∧ x9 ≤ nI 3) ∧ (0 ≤ y9 ∧ y9 < nI (ccn wd ct a (kz x9) n)) → rv = lN (lwd (fun i => decide (cor wd ct a (kz x9) i ∧ cnt (fun j => decide (cor wd ct a (kz x9) j ∧ rkb (pzf wd a) ct wd j i)) n = kz y9)) wd n))) (fun (uv : (Int32) × (Int32) × (Int32) × (Nat → Int32) × (Nat → Int32) × (Nat → Int32)) (tv : State) => va_P D vwCl [(mo, .inr (9, [.int uv.1, .int (nI n), .ref mw, .ref mct, .ref mp, .ref mnm, .ref m1, .ref m2, .int uv.2.1, .int uv.2.2.1, .ref mt, .ref mk, .ref mr, .ref ml, .ref mq])), (m1, .inl (k5, 11, .inl uv.2.2.2.1)), (m2, .inl (k6, 11, .inl uv.2.2.2.2.1)), (mt, .inl (k7, 121, .inl uv.2.2.2.2.2))] tv.heap) (va_A [(mo, .inr (9, [.int th, .int (nI n), .ref mw, .ref mct, .ref mp, .ref mnm, .ref m1, .ref m2, .int om, .int tm, .ref mt, .ref mk, .ref mr, .ref ml, .ref mq])), (m1, .inl (k5, 11, .inl f1)), (m2, .inl (k6, 11, .inl f2)), (mt, .inl (k7, 121, .inl ft))] sz)) 0 0 (va_A [(mo, .inr (9, [.int th, .int (nI n), .ref mw, .ref mct, .ref mp, .ref mnm, .ref m1, .ref m2, .int om, .int tm, .ref mt, .ref mk, .ref mr, .ref ml, .ref mq])), (m1, .inl (k5, 11, .inl f1)), (m2, .inl (k6, 11, .inl f2)), (mt, .inl (k7, 121, .inl ft))] sz) := by
  refine Met.ofW (cc := cX10_correction) (maxL := 11) (ret := (some .long)) (by decide) rfl ?_
  intro pM eM s mi9 argsM belowM methM cM sM B hml hv
  obtain ⟨rfl, hsz, hR0, hP, hK, hNw⟩ := hv
  have hx := B.exec
  have hb := B.bytes
  have hr := B.returns
  have hts := atoms_spec (ws := wsX10_correction) B.pre
  have hown : s.vm.findClass RX10 = some mi9.cls := findClass_of_methodNamed B.named
  have hlocks := B.notSynchronized
  subst hsz
  have hna := q_na (RW := [(mo, .inr (9, [.int th, .int (nI n), .ref mw, .ref mct, .ref mp, .ref mnm, .ref m1, .ref m2, .int om, .int tm, .ref mt, .ref mk, .ref mr, .ref ml, .ref mq])), (m1, .inl (k5, 11, .inl f1)), (m2, .inl (k6, 11, .inl f2)), (mt, .inl (k7, 121, .inl ft))]) (RO := [(mw, .inl (k1, 40, .inr (.inl (fun k9 => lN (wd k9))))), (mct, .inl (k2, 40, .inl (fun k9 => nI (ct k9)))), (mk, .inl (k8, 27, .inl (fun k9 => nI (kyf k9))))]) hnd rfl rfl hR0
  have hD := q_D (RW := [(mo, .inr (9, [.int th, .int (nI n), .ref mw, .ref mct, .ref mp, .ref mnm, .ref m1, .ref m2, .int om, .int tm, .ref mt, .ref mk, .ref mr, .ref ml, .ref mq])), (m1, .inl (k5, 11, .inl f1)), (m2, .inl (k6, 11, .inl f2)), (mt, .inl (k7, 121, .inl ft))]) (sz := s.heap.size) hnd rfl
  have hA : ∀ q : Nat, s.heap.size ≤ q → va_A [(mo, .inr (9, [.int th, .int (nI n), .ref mw, .ref mct, .ref mp, .ref mnm, .ref m1, .ref m2, .int om, .int tm, .ref mt, .ref mk, .ref mr, .ref ml, .ref mq])), (m1, .inl (k5, 11, .inl f1)), (m2, .inl (k6, 11, .inl f2)), (mt, .inl (k7, 121, .inl ft))] s.heap.size q := fun q h => Or.inr h
  generalize hAe : va_A [(mo, .inr (9, [.int th, .int (nI n), .ref mw, .ref mct, .ref mp, .ref mnm, .ref m1, .ref m2, .int om, .int tm, .ref mt, .ref mk, .ref mr, .ref ml, .ref mq])), (m1, .inl (k5, 11, .inl f1)), (m2, .inl (k6, 11, .inl f2)), (mt, .inl (k7, 121, .inl ft))] s.heap.size = A at hna hD hA ⊢
  have hS : va_S A s.heap s.heap [] := va_S.rf
  have hR := hR0
  have hP : va_P D vwCl [(mo, .inr (9, [.int th, .int (nI n), .ref mw, .ref mct, .ref mp, .ref mnm, .ref m1, .ref m2, .int om, .int tm, .ref mt, .ref mk, .ref mr, .ref ml, .ref mq])), (m1, .inl (k5, 11, .inl f1)), (m2, .inl (k6, 11, .inl f2)), (mt, .inl (k7, 121, .inl ft))] s.heap := hP
  have hl := lv_entry ([.ref mo, .long (lN a), .int x9, .int y9]) (n := 11) (Nat.le_of_ble_eq_true rfl)
  rw [lg_entry_eq]
  generalize (lg_sl ([.ref mo, .long (lN a), .int x9, .int y9]) ++ List.replicate (11 - (lg_sl ([.ref mo, .long (lN a), .int x9, .int y9])).length) Slot.unset).toArray = ls at hl ⊢
  have hl : lv_has ls 11 [(0, .ref mo), (1, .long (lN a)), (3, .int x9), (4, .int y9)] := hl
  refine lv_lload_n hx hb dX10_correction_0 rfl (lv_at hl 1 rfl) ?_
  refine lv_iload_n hx hb dX10_correction_1 rfl (lv_at hl 2 rfl) ?_
  refine lv_iconst (v := nI 3) hx hb dX10_correction_2 (by decide) ?_
  refine vp_callSi (W.runS (As := [.long (lN a), .int x9, .int (nI 3)]) (rest := []) ⟨hx, hb, hml, hown, hts⟩ (c_X10_isSearch (l := l) (D := D) (a := a) (x9 := x9) (mm := 3) (ha := ha)) (va_cwS 3 hts gX10_correction_X10_isSearch rfl rfl rfl (by decide +kernel) ⟨Nat.le_of_ble_eq_true rfl, Nat.le_of_ble_eq_true rfl⟩) ⟨qP_blind, (qP_of (q_Pof (fun _ h => absurd h List.not_mem_nil)) (hK.sub (tys' := []) [] rfl) hNw)⟩ rfl rfl hl.1 rfl (lv_room (Nat.le_of_ble_eq_true rfl)) dX10_correction_3 ⟨Nat.le_of_ble_eq_true rfl, Nat.le_of_ble_eq_true rfl⟩) (fun r_1 hr_1 => ?_)
  subst hr_1
  refine lv_istore (lv' := [(5, .int (if gw a ∧ 0 ≤ x9 ∧ x9 ≤ nI 3 then 1 else 0)), (0, .ref mo), (1, .long (lN a)), (3, .int x9), (4, .int y9)]) hx hb dX10_correction_6 hl (by decide) rfl (fun ls hl => ?_)
  refine lv_aload_n hx hb dX10_correction_8 rfl (lv_at hl 1 rfl) ?_
  refine lv_iload hx hb dX10_correction_9 (lv_at hl 0 rfl) ?_
  refine q_ifb_ne (tgt := 18) hx hb dX10_correction_11 (by decide) (fun c_11 => ?_) (fun c_11 => ?_)
  · skip
    refine lv_iload hx hb dX10_correction_18 (lv_at hl 4 rfl) ?_
    refine lv_if_lt (tgt := 38) hx hb dX10_correction_20 (by decide) (fun c_20 => ?_) (fun c_20 => ?_)
    · skip
      refine lv_iconst (v := nI 2) hx hb dX10_correction_38 (by decide) ?_
      have hF := va_free (wc := [(mo, .inr (9, [.int th, .int (nI n), .ref mw, .ref mct, .ref mp, .ref mnm, .ref m1, .ref m2, .int om, .int tm, .ref mt, .ref mk, .ref mr, .ref ml, .ref mq]))]) hD hS hA [0] rfl
      refine va_calli (va_runV (As := [.int (nI 2)]) (rest := []) ⟨hx, hb, hml, hown, hts⟩ (c_X10_goesWell (l := l) (D := D) (mo := mo) (mw := mw) (mct := mct) (mp := mp) (mnm := mnm) (m1 := m1) (m2 := m2) (mt := mt) (mk := mk) (mr := mr) (ml := ml) (mq := mq) (th := th) (n := n) (om := om) (tm := tm) (x9 := 2) (sz := s.heap.size) (hnd := (q_nds hnd [0] rfl rfl)) (hx9 := by omega)) (cwV 1 hts gX10_correction_X10_goesWell rfl rfl rfl (by decide +kernel) ⟨Nat.le_of_ble_eq_true rfl, Nat.le_of_ble_eq_true rfl⟩) ⟨qW_blind, (va_recv hK hP (ci := 9) (q0 := 0) rfl rfl), (qW_of (q_Pof (fun _ h => absurd h List.not_mem_nil)) (hP.sub (ws' := [(mo, .inr (9, [.int th, .int (nI n), .ref mw, .ref mct, .ref mp, .ref mnm, .ref m1, .ref m2, .int om, .int tm, .ref mt, .ref mk, .ref mr, .ref ml, .ref mq]))]) [0] rfl) (hK.sub (tys' := []) [] rfl) hNw)⟩ rfl rfl hl.1 rfl (lv_room (Nat.le_of_ble_eq_true rfl)) dX10_correction_39 ⟨Nat.le_of_ble_eq_true rfl, Nat.le_of_ble_eq_true rfl⟩) hS (fun q _ h => hF q h) hF (fun r_2 u_6 t_5 H_3 locs_4 ht hvm hr_2 hB hz1 hk1 hS => ?_)
      replace hB : va_P D vwCl [(mo, .inr (9, [.int (nI 2), .int (nI n), .ref mw, .ref mct, .ref mp, .ref mnm, .ref m1, .ref m2, .int om, .int tm, .ref mt, .ref mk, .ref mr, .ref ml, .ref mq]))] H_3 := by rw [← ht]; exact hB
      obtain ⟨hP, hD⟩ := q_join (wc := [(mo, .inr (9, [.int th, .int (nI n), .ref mw, .ref mct, .ref mp, .ref mnm, .ref m1, .ref m2, .int om, .int tm, .ref mt, .ref mk, .ref mr, .ref ml, .ref mq]))]) (w1 := [(mo, .inr (9, [.int (nI 2), .int (nI n), .ref mw, .ref mct, .ref mp, .ref mnm, .ref m1, .ref m2, .int om, .int tm, .ref mt, .ref mk, .ref mr, .ref ml, .ref mq]))]) (ws' := [(mo, .inr (9, [.int (nI 2), .int (nI n), .ref mw, .ref mct, .ref mp, .ref mnm, .ref m1, .ref m2, .int om, .int tm, .ref mt, .ref mk, .ref mr, .ref ml, .ref mq])), (m1, .inl (k5, 11, .inl f1)), (m2, .inl (k6, 11, .inl f2)), (mt, .inl (k7, 121, .inl ft))]) [0] hP hD rfl rfl hk1 hB rfl
      have hR := q_ro hR0 hna hS
      subst hr_2
      refine q_ifb_ne (tgt := 47) hx hb dX10_correction_42 (by decide) (fun c9 => absurd c9 (by decide)) (fun _ => ?_)
      refine lv_lconst (v := lN 0) hx hb dX10_correction_45 (by decide) ?_
      have hno : ¬ (0 ≤ y9 ∧ y9 < nI (ccn wd ct a (kz x9) n)) := fun h9 => by have h8 := c_20; rw [Int32.lt_iff_toInt_lt] at h8; have h7 := h9.1; rw [Int32.le_iff_toInt_le] at h7; omega
      exact W.lret (v := lN 0) hx hb hr (fun t9 ht hW => ⟨⟨lN 0, (nI 2, om, tm, f1, f2, ft), rfl, ⟨(by rw [if_pos c_11, if_neg hno]), (fun h9 => absurd h9.2 hno)⟩, by show va_P D vwCl _ t9.heap; rw [ht]; exact hP⟩, hS.F ht⟩) hS.2.2 dX10_correction_46
    · skip
      have hkx := kz_31 x9
      have hlx := kz_le (by decide) c_11.2.1 c_11.2.2
      have hl : lv_has ls 11 [(5, .int (if gw a ∧ 0 ≤ x9 ∧ x9 ≤ nI 3 then 1 else 0)), (0, .ref mo), (1, .long (lN a)), (3, .int (nI (kz x9))), (4, .int y9)] := (congrArg (fun v9 => lv_has ls 11 [(5, .int (if gw a ∧ 0 ≤ x9 ∧ x9 ≤ nI 3 then 1 else 0)), (0, .ref mo), (1, .long (lN a)), (3, .int v9), (4, .int y9)]) (kz_of c_11.2.1)).mp hl
      refine lv_iload hx hb dX10_correction_23 (lv_at hl 4 rfl) ?_
      refine lv_aload_n hx hb dX10_correction_25 rfl (lv_at hl 1 rfl) ?_
      refine lv_lload_n hx hb dX10_correction_26 rfl (lv_at hl 2 rfl) ?_
      refine lv_iload_n hx hb dX10_correction_27 rfl (lv_at hl 3 rfl) ?_
      have hF := va_free (wc := [(mo, .inr (9, [.int th, .int (nI n), .ref mw, .ref mct, .ref mp, .ref mnm, .ref m1, .ref m2, .int om, .int tm, .ref mt, .ref mk, .ref mr, .ref ml, .ref mq])), (m1, .inl (k5, 11, .inl f1)), (m2, .inl (k6, 11, .inl f2)), (mt, .inl (k7, 121, .inl ft))]) hD hS hA [0, 1, 2, 3] rfl
      refine va_calli (va_runV (As := [.long (lN a), .int (nI (kz x9))]) (rest := [.int y9, .ref mo]) ⟨hx, hb, hml, hown, hts⟩ (c_X10_correctionMany (l := l) (D := D) (mo := mo) (mw := mw) (mct := mct) (mp := mp) (mnm := mnm) (m1 := m1) (m2 := m2) (mt := mt) (mk := mk) (mr := mr) (ml := ml) (mq := mq) (k1 := k1) (k2 := k2) (k5 := k5) (k6 := k6) (k7 := k7) (th := th) (n := n) (om := om) (tm := tm) (f1 := f1) (f2 := f2) (ft := ft) (wd := wd) (ct := ct) (a := a) (k := kz x9) (sz := s.heap.size) (hnd := (q_nds hnd [0, 1, 2, 3, 4, 5] rfl rfl)) (hga := c_11.1) (hn40 := hn40) (hgw := by omega) (hcb := by omega) (hk9 := hkx)) (cwV 2 hts gX10_correction_X10_correctionMany rfl rfl rfl (by decide +kernel) ⟨Nat.le_of_ble_eq_true rfl, Nat.le_of_ble_eq_true rfl⟩) ⟨qW_blind, (va_recv hK hP (ci := 9) (q0 := 0) rfl rfl), (qW_of (hR.sub (ws' := [(mw, .inl (k1, 40, .inr (.inl (fun k9 => lN (wd k9))))), (mct, .inl (k2, 40, .inl (fun k9 => nI (ct k9))))]) [0, 1] rfl) (hP.sub (ws' := [(mo, .inr (9, [.int th, .int (nI n), .ref mw, .ref mct, .ref mp, .ref mnm, .ref m1, .ref m2, .int om, .int tm, .ref mt, .ref mk, .ref mr, .ref ml, .ref mq])), (m1, .inl (k5, 11, .inl f1)), (m2, .inl (k6, 11, .inl f2)), (mt, .inl (k7, 121, .inl ft))]) [0, 1, 2, 3] rfl) (hK.sub (tys' := [(k5, .int), (k6, .int), (k7, .int), (k1, .long), (k2, .int)]) [0, 1, 2, 3, 4] rfl) hNw)⟩ rfl rfl hl.1 rfl (lv_room (Nat.le_of_ble_eq_true rfl)) dX10_correction_28 ⟨Nat.le_of_ble_eq_true rfl, Nat.le_of_ble_eq_true rfl⟩) hS (fun q _ h => hF q h) hF (fun r_7 u_11 t_10 H_8 locs_9 ht hvm hr_7 hB hz1 hk1 hS => ?_)
      obtain ⟨o2_12, q2_13, g1_14, g2_15, g3_16⟩ := u_11
      dsimp only at hr_7 hB
      replace hB : va_P D vwCl [(mo, .inr (9, [.int th, .int (nI n), .ref mw, .ref mct, .ref mp, .ref mnm, .ref m1, .ref m2, .int o2_12, .int q2_13, .ref mt, .ref mk, .ref mr, .ref ml, .ref mq])), (m1, .inl (k5, 11, .inl g1_14)), (m2, .inl (k6, 11, .inl g2_15)), (mt, .inl (k7, 121, .inl g3_16))] H_8 := by rw [← ht]; exact hB
      obtain ⟨hP, hD⟩ := q_join (wc := [(mo, .inr (9, [.int th, .int (nI n), .ref mw, .ref mct, .ref mp, .ref mnm, .ref m1, .ref m2, .int om, .int tm, .ref mt, .ref mk, .ref mr, .ref ml, .ref mq])), (m1, .inl (k5, 11, .inl f1)), (m2, .inl (k6, 11, .inl f2)), (mt, .inl (k7, 121, .inl ft))]) (w1 := [(mo, .inr (9, [.int th, .int (nI n), .ref mw, .ref mct, .ref mp, .ref mnm, .ref m1, .ref m2, .int o2_12, .int q2_13, .ref mt, .ref mk, .ref mr, .ref ml, .ref mq])), (m1, .inl (k5, 11, .inl g1_14)), (m2, .inl (k6, 11, .inl g2_15)), (mt, .inl (k7, 121, .inl g3_16))]) (ws' := [(mo, .inr (9, [.int th, .int (nI n), .ref mw, .ref mct, .ref mp, .ref mnm, .ref m1, .ref m2, .int o2_12, .int q2_13, .ref mt, .ref mk, .ref mr, .ref ml, .ref mq])), (m1, .inl (k5, 11, .inl g1_14)), (m2, .inl (k6, 11, .inl g2_15)), (mt, .inl (k7, 121, .inl g3_16))]) [0, 1, 2, 3] hP hD rfl rfl hk1 hB rfl
      have hR := q_ro hR0 hna hS
      subst hr_7
      refine lv_icmp_ge (tgt := 38) hx hb dX10_correction_31 (by decide) (fun c_31 => ?_) (fun c_31 => ?_)
      · skip
        refine lv_iconst (v := nI 2) hx hb dX10_correction_38 (by decide) ?_
        have hF := va_free (wc := [(mo, .inr (9, [.int th, .int (nI n), .ref mw, .ref mct, .ref mp, .ref mnm, .ref m1, .ref m2, .int o2_12, .int q2_13, .ref mt, .ref mk, .ref mr, .ref ml, .ref mq]))]) hD hS hA [0] rfl
        refine va_calli (va_runV (As := [.int (nI 2)]) (rest := []) ⟨hx, hb, hml, hown, hts⟩ (c_X10_goesWell (l := l) (D := D) (mo := mo) (mw := mw) (mct := mct) (mp := mp) (mnm := mnm) (m1 := m1) (m2 := m2) (mt := mt) (mk := mk) (mr := mr) (ml := ml) (mq := mq) (th := th) (n := n) (om := o2_12) (tm := q2_13) (x9 := 2) (sz := H_8.size) (hnd := (q_nds hnd [0] rfl rfl)) (hx9 := by omega)) (cwV 1 hts gX10_correction_X10_goesWell rfl rfl rfl (by decide +kernel) ⟨Nat.le_of_ble_eq_true rfl, Nat.le_of_ble_eq_true rfl⟩) ⟨qW_blind, (va_recv hK hP (ci := 9) (q0 := 0) rfl rfl), (qW_of (q_Pof (fun _ h => absurd h List.not_mem_nil)) (hP.sub (ws' := [(mo, .inr (9, [.int th, .int (nI n), .ref mw, .ref mct, .ref mp, .ref mnm, .ref m1, .ref m2, .int o2_12, .int q2_13, .ref mt, .ref mk, .ref mr, .ref ml, .ref mq]))]) [0] rfl) (hK.sub (tys' := []) [] rfl) hNw)⟩ rfl rfl hl.1 rfl (lv_room (Nat.le_of_ble_eq_true rfl)) dX10_correction_39 ⟨Nat.le_of_ble_eq_true rfl, Nat.le_of_ble_eq_true rfl⟩) hS (fun q _ h => hF q h) hF (fun r_17 u_21 t_20 H_18 locs_19 ht hvm hr_17 hB hz1 hk1 hS => ?_)
        replace hB : va_P D vwCl [(mo, .inr (9, [.int (nI 2), .int (nI n), .ref mw, .ref mct, .ref mp, .ref mnm, .ref m1, .ref m2, .int o2_12, .int q2_13, .ref mt, .ref mk, .ref mr, .ref ml, .ref mq]))] H_18 := by rw [← ht]; exact hB
        obtain ⟨hP, hD⟩ := q_join (wc := [(mo, .inr (9, [.int th, .int (nI n), .ref mw, .ref mct, .ref mp, .ref mnm, .ref m1, .ref m2, .int o2_12, .int q2_13, .ref mt, .ref mk, .ref mr, .ref ml, .ref mq]))]) (w1 := [(mo, .inr (9, [.int (nI 2), .int (nI n), .ref mw, .ref mct, .ref mp, .ref mnm, .ref m1, .ref m2, .int o2_12, .int q2_13, .ref mt, .ref mk, .ref mr, .ref ml, .ref mq]))]) (ws' := [(mo, .inr (9, [.int (nI 2), .int (nI n), .ref mw, .ref mct, .ref mp, .ref mnm, .ref m1, .ref m2, .int o2_12, .int q2_13, .ref mt, .ref mk, .ref mr, .ref ml, .ref mq])), (m1, .inl (k5, 11, .inl g1_14)), (m2, .inl (k6, 11, .inl g2_15)), (mt, .inl (k7, 121, .inl g3_16))]) [0] hP hD rfl rfl hk1 hB rfl
        have hR := q_ro hR0 hna hS
        subst hr_17
        refine q_ifb_ne (tgt := 47) hx hb dX10_correction_42 (by decide) (fun c9 => absurd c9 (by decide)) (fun _ => ?_)
        refine lv_lconst (v := lN 0) hx hb dX10_correction_45 (by decide) ?_
        have hno : ¬ (0 ≤ y9 ∧ y9 < nI (ccn wd ct a (kz x9) n)) := fun h9 => by have h8 := c_31; rw [Int32.le_iff_toInt_le] at h8; have h7 := h9.2; rw [Int32.lt_iff_toInt_lt] at h7; omega
        exact W.lret (v := lN 0) hx hb hr (fun t9 ht hW => ⟨⟨lN 0, (nI 2, o2_12, q2_13, g1_14, g2_15, g3_16), rfl, ⟨(by rw [if_pos c_11, if_neg hno]), (fun h9 => absurd h9.2 hno)⟩, by show va_P D vwCl _ t9.heap; rw [ht]; exact hP⟩, hS.F ht⟩) hS.2.2 dX10_correction_46
      · skip
        refine lv_iconst (v := nI 0) hx hb dX10_correction_34 (by decide) ?_
        refine lv_goto (tgt := 39) hx hb dX10_correction_35 (by decide) ?_
        have hF := va_free (wc := [(mo, .inr (9, [.int th, .int (nI n), .ref mw, .ref mct, .ref mp, .ref mnm, .ref m1, .ref m2, .int o2_12, .int q2_13, .ref mt, .ref mk, .ref mr, .ref ml, .ref mq]))]) hD hS hA [0] rfl
        refine va_calli (va_runV (As := [.int (nI 0)]) (rest := []) ⟨hx, hb, hml, hown, hts⟩ (c_X10_goesWell (l := l) (D := D) (mo := mo) (mw := mw) (mct := mct) (mp := mp) (mnm := mnm) (m1 := m1) (m2 := m2) (mt := mt) (mk := mk) (mr := mr) (ml := ml) (mq := mq) (th := th) (n := n) (om := o2_12) (tm := q2_13) (x9 := 0) (sz := H_8.size) (hnd := (q_nds hnd [0] rfl rfl)) (hx9 := by omega)) (cwV 1 hts gX10_correction_X10_goesWell rfl rfl rfl (by decide +kernel) ⟨Nat.le_of_ble_eq_true rfl, Nat.le_of_ble_eq_true rfl⟩) ⟨qW_blind, (va_recv hK hP (ci := 9) (q0 := 0) rfl rfl), (qW_of (q_Pof (fun _ h => absurd h List.not_mem_nil)) (hP.sub (ws' := [(mo, .inr (9, [.int th, .int (nI n), .ref mw, .ref mct, .ref mp, .ref mnm, .ref m1, .ref m2, .int o2_12, .int q2_13, .ref mt, .ref mk, .ref mr, .ref ml, .ref mq]))]) [0] rfl) (hK.sub (tys' := []) [] rfl) hNw)⟩ rfl rfl hl.1 rfl (lv_room (Nat.le_of_ble_eq_true rfl)) dX10_correction_39 ⟨Nat.le_of_ble_eq_true rfl, Nat.le_of_ble_eq_true rfl⟩) hS (fun q _ h => hF q h) hF (fun r_22 u_26 t_25 H_23 locs_24 ht hvm hr_22 hB hz1 hk1 hS => ?_)
        replace hB : va_P D vwCl [(mo, .inr (9, [.int (nI 0), .int (nI n), .ref mw, .ref mct, .ref mp, .ref mnm, .ref m1, .ref m2, .int o2_12, .int q2_13, .ref mt, .ref mk, .ref mr, .ref ml, .ref mq]))] H_23 := by rw [← ht]; exact hB
        obtain ⟨hP, hD⟩ := q_join (wc := [(mo, .inr (9, [.int th, .int (nI n), .ref mw, .ref mct, .ref mp, .ref mnm, .ref m1, .ref m2, .int o2_12, .int q2_13, .ref mt, .ref mk, .ref mr, .ref ml, .ref mq]))]) (w1 := [(mo, .inr (9, [.int (nI 0), .int (nI n), .ref mw, .ref mct, .ref mp, .ref mnm, .ref m1, .ref m2, .int o2_12, .int q2_13, .ref mt, .ref mk, .ref mr, .ref ml, .ref mq]))]) (ws' := [(mo, .inr (9, [.int (nI 0), .int (nI n), .ref mw, .ref mct, .ref mp, .ref mnm, .ref m1, .ref m2, .int o2_12, .int q2_13, .ref mt, .ref mk, .ref mr, .ref ml, .ref mq])), (m1, .inl (k5, 11, .inl g1_14)), (m2, .inl (k6, 11, .inl g2_15)), (mt, .inl (k7, 121, .inl g3_16))]) [0] hP hD rfl rfl hk1 hB rfl
        have hR := q_ro hR0 hna hS
        subst hr_22
        refine q_ifb_ne (tgt := 47) hx hb dX10_correction_42 (by decide) (fun _ => ?_) (fun c9 => absurd (by decide) c9)
        have h0 : 0 ≤ y9 := by have h8 := c_20; rw [Int32.lt_iff_toInt_lt] at h8; rw [Int32.le_iff_toInt_le]; omega
        have hok9 : 0 ≤ y9 ∧ y9 < nI (ccn wd ct a (kz x9) n) := ⟨h0, by have h8 := c_31; rw [Int32.le_iff_toInt_le] at h8; rw [Int32.lt_iff_toInt_lt]; omega⟩
        have hky := kz_31 y9
        have hl : lv_has ls 11 [(5, .int (if gw a ∧ 0 ≤ x9 ∧ x9 ≤ nI 3 then 1 else 0)), (0, .ref mo), (1, .long (lN a)), (3, .int (nI (kz x9))), (4, .int (nI (kz y9)))] := (congrArg (fun v9 => lv_has ls 11 [(5, .int (if gw a ∧ 0 ≤ x9 ∧ x9 ≤ nI 3 then 1 else 0)), (0, .ref mo), (1, .long (lN a)), (3, .int (nI (kz x9))), (4, .int v9)]) (kz_of h0)).mp hl
        refine lv_lconst (v := lN 0) hx hb dX10_correction_47 (by decide) ?_
        refine lv_lstore (lv' := [(6, .long (lN 0)), (5, .int (if gw a ∧ 0 ≤ x9 ∧ x9 ≤ nI 3 then 1 else 0)), (0, .ref mo), (1, .long (lN a)), (3, .int (nI (kz x9))), (4, .int (nI (kz y9)))]) hx hb dX10_correction_48 hl (by decide) rfl (fun ls hl => ?_)
        refine lv_iconst (v := nI 0) hx hb dX10_correction_50 (by decide) ?_
        refine lv_istore (lv' := [(8, .int (nI 0)), (6, .long (lN 0)), (5, .int (if gw a ∧ 0 ≤ x9 ∧ x9 ≤ nI 3 then 1 else 0)), (0, .ref mo), (1, .long (lN a)), (3, .int (nI (kz x9))), (4, .int (nI (kz y9)))]) hx hb dX10_correction_51 hl (by decide) rfl (fun ls hl => ?_)
        refine q_loop (fun (x : (Nat) × (Int32) × (Int32) × (Nat → Int32) × (Nat → Int32) × (Nat → Int32)) (H : Heap) (locs : List Loc) (ls : Array Slot) => match x with | (i, oa, ta, u1, u2, u3) => (i ≤ n) ∧ va_P D vwCl [(mo, .inr (9, [.int (nI 0), .int (nI n), .ref mw, .ref mct, .ref mp, .ref mnm, .ref m1, .ref m2, .int oa, .int ta, .ref mt, .ref mk, .ref mr, .ref ml, .ref mq])), (m1, .inl (k5, 11, .inl u1)), (m2, .inl (k6, 11, .inl u2)), (mt, .inl (k7, 121, .inl u3))] H ∧ va_D A [(mo, .inr (9, [.int (nI 0), .int (nI n), .ref mw, .ref mct, .ref mp, .ref mnm, .ref m1, .ref m2, .int oa, .int ta, .ref mt, .ref mk, .ref mr, .ref ml, .ref mq])), (m1, .inl (k5, 11, .inl u1)), (m2, .inl (k6, 11, .inl u2)), (mt, .inl (k7, 121, .inl u3))] ∧ va_S A s.heap H locs ∧ lv_has ls 11 [(8, .int (nI i)), (6, .long (lN (lwd (fun i => decide (cor wd ct a (kz x9) i ∧ cnt (fun j => decide (cor wd ct a (kz x9) j ∧ rkb (pzf wd a) ct wd j i)) n = kz y9)) wd i))), (5, .int (if gw a ∧ 0 ≤ x9 ∧ x9 ≤ nI 3 then 1 else 0)), (0, .ref mo), (1, .long (lN a)), (3, .int (nI (kz x9))), (4, .int (nI (kz y9)))]) (fun (x : (Nat) × (Int32) × (Int32) × (Nat → Int32) × (Nat → Int32) × (Nat → Int32)) => match x with | (i, oa, ta, u1, u2, u3) => n - i) (0, o2_12, q2_13, g1_14, g2_15, g3_16) ⟨(by omega), hP, hD, hS, (lv_sub hl [0, 1, 2, 3, 4, 5, 6] rfl)⟩ ?_
        clear hl
        clear hP hD hS
        rintro ⟨i, oa, ta, u1, u2, u3⟩ H locs ls hI ih_53
        obtain ⟨hi, hP, hD, hS, hl⟩ := hI
        have hR := q_ro hR0 hna hS
        refine lv_iload hx hb dX10_correction_53 (lv_at hl 0 rfl) ?_
        refine lv_aload_n hx hb dX10_correction_55 rfl (lv_at hl 3 rfl) ?_
        refine va_get (D := D) (own := RX10) (ref := "FuzzyFensModel") (ci := 9) (v := .int (nI n)) (C := RX10) (T := TX10) (N := 15) hx hb hts iX10_correction_X10 hown hK hP 0 rfl rfl 1 (by decide) (hts (.fieldLink RX10 77 "FuzzyFensModel" "many" "I") (List.mem_of_getElem? (i := 1) rfl)) (fun _ h9 => h9) rfl dX10_correction_56 ?_
        refine q_icmp_ge (a := i) (b := n) (tgt := 154) hx hb dX10_correction_59 (by decide) (by omega) (by omega) (fun c_59 => ?_) (fun c_59 => ?_)
        · skip
          refine lv_lload hx hb dX10_correction_154 (lv_at hl 1 rfl) ?_
          exact W.lret (v := lN (lwd (fun i => decide (cor wd ct a (kz x9) i ∧ cnt (fun j => decide (cor wd ct a (kz x9) j ∧ rkb (pzf wd a) ct wd j i)) n = kz y9)) wd i)) hx hb hr (fun t9 ht hW => ⟨⟨lN (lwd (fun i => decide (cor wd ct a (kz x9) i ∧ cnt (fun j => decide (cor wd ct a (kz x9) j ∧ rkb (pzf wd a) ct wd j i)) n = kz y9)) wd i), (nI 0, oa, ta, u1, u2, u3), rfl, ⟨(by rw [if_pos c_11, if_pos hok9]), (fun _ => by rw [show n = i by omega])⟩, by show va_P D vwCl _ t9.heap; rw [ht]; exact hP⟩, hS.F ht⟩) hS.2.2 dX10_correction_156
        · skip
          refine lv_iconst (v := nI 0) hx hb dX10_correction_62 (by decide) ?_
          refine lv_istore (lv' := [(9, .int (nI 0)), (8, .int (nI i)), (6, .long (lN (lwd (fun i => decide (cor wd ct a (kz x9) i ∧ cnt (fun j => decide (cor wd ct a (kz x9) j ∧ rkb (pzf wd a) ct wd j i)) n = kz y9)) wd i))), (5, .int (if gw a ∧ 0 ≤ x9 ∧ x9 ≤ nI 3 then 1 else 0)), (0, .ref mo), (1, .long (lN a)), (3, .int (nI (kz x9))), (4, .int (nI (kz y9)))]) hx hb dX10_correction_63 hl (by decide) rfl (fun ls hl => ?_)
          refine lv_iconst (v := nI 0) hx hb dX10_correction_65 (by decide) ?_
          refine lv_istore (lv' := [(10, .int (nI 0)), (9, .int (nI 0)), (8, .int (nI i)), (6, .long (lN (lwd (fun i => decide (cor wd ct a (kz x9) i ∧ cnt (fun j => decide (cor wd ct a (kz x9) j ∧ rkb (pzf wd a) ct wd j i)) n = kz y9)) wd i))), (5, .int (if gw a ∧ 0 ≤ x9 ∧ x9 ≤ nI 3 then 1 else 0)), (0, .ref mo), (1, .long (lN a)), (3, .int (nI (kz x9))), (4, .int (nI (kz y9)))]) hx hb dX10_correction_66 hl (by decide) rfl (fun ls hl => ?_)
          refine q_loop (fun (x : (Nat) × (Int32) × (Int32) × (Nat → Int32) × (Nat → Int32) × (Nat → Int32)) (H : Heap) (locs : List Loc) (ls : Array Slot) => match x with | (j, ob, tb, v1, v2, v3) => (j ≤ n) ∧ va_P D vwCl [(mo, .inr (9, [.int (nI 0), .int (nI n), .ref mw, .ref mct, .ref mp, .ref mnm, .ref m1, .ref m2, .int ob, .int tb, .ref mt, .ref mk, .ref mr, .ref ml, .ref mq])), (m1, .inl (k5, 11, .inl v1)), (m2, .inl (k6, 11, .inl v2)), (mt, .inl (k7, 121, .inl v3))] H ∧ va_D A [(mo, .inr (9, [.int (nI 0), .int (nI n), .ref mw, .ref mct, .ref mp, .ref mnm, .ref m1, .ref m2, .int ob, .int tb, .ref mt, .ref mk, .ref mr, .ref ml, .ref mq])), (m1, .inl (k5, 11, .inl v1)), (m2, .inl (k6, 11, .inl v2)), (mt, .inl (k7, 121, .inl v3))] ∧ va_S A s.heap H locs ∧ lv_has ls 11 [(10, .int (nI j)), (9, .int (nI (cnt (fun j => decide (cor wd ct a (kz x9) j ∧ rkb (pzf wd a) ct wd j i)) j))), (8, .int (nI i)), (6, .long (lN (lwd (fun i => decide (cor wd ct a (kz x9) i ∧ cnt (fun j => decide (cor wd ct a (kz x9) j ∧ rkb (pzf wd a) ct wd j i)) n = kz y9)) wd i))), (5, .int (if gw a ∧ 0 ≤ x9 ∧ x9 ≤ nI 3 then 1 else 0)), (0, .ref mo), (1, .long (lN a)), (3, .int (nI (kz x9))), (4, .int (nI (kz y9)))]) (fun (x : (Nat) × (Int32) × (Int32) × (Nat → Int32) × (Nat → Int32) × (Nat → Int32)) => match x with | (j, ob, tb, v1, v2, v3) => n - j) (0, oa, ta, u1, u2, u3) ⟨(by omega), hP, hD, hS, (lv_sub hl [0, 1, 2, 3, 4, 5, 6, 7, 8] rfl)⟩ ?_
          clear hl
          clear hP hD hS
          rintro ⟨j, ob, tb, v1, v2, v3⟩ H locs ls hI ih_68
          obtain ⟨hj, hP, hD, hS, hl⟩ := hI
          have hR := q_ro hR0 hna hS
          refine lv_iload hx hb dX10_correction_68 (lv_at hl 0 rfl) ?_
          refine lv_aload_n hx hb dX10_correction_70 rfl (lv_at hl 5 rfl) ?_
          refine va_get (D := D) (own := RX10) (ref := "FuzzyFensModel") (ci := 9) (v := .int (nI n)) (C := RX10) (T := TX10) (N := 15) hx hb hts iX10_correction_X10 hown hK hP 0 rfl rfl 1 (by decide) (hts (.fieldLink RX10 77 "FuzzyFensModel" "many" "I") (List.mem_of_getElem? (i := 1) rfl)) (fun _ h9 => h9) rfl dX10_correction_71 ?_
          refine q_icmp_ge (a := j) (b := n) (tgt := 116) hx hb dX10_correction_74 (by decide) (by omega) (by omega) (fun c_74 => ?_) (fun c_74 => ?_)
          · skip
            have ejn : j = n := by omega
            have hcl := cnt_le (fun j => decide (cor wd ct a (kz x9) j ∧ rkb (pzf wd a) ct wd j i)) j
            refine lv_aload_n hx hb dX10_correction_116 rfl (lv_at hl 5 rfl) ?_
            refine lv_iload hx hb dX10_correction_117 (lv_at hl 2 rfl) ?_
            refine lv_lload_n hx hb dX10_correction_119 rfl (lv_at hl 6 rfl) ?_
            refine lv_iload_n hx hb dX10_correction_120 rfl (lv_at hl 7 rfl) ?_
            have hF := va_free (wc := [(mo, .inr (9, [.int (nI 0), .int (nI n), .ref mw, .ref mct, .ref mp, .ref mnm, .ref m1, .ref m2, .int ob, .int tb, .ref mt, .ref mk, .ref mr, .ref ml, .ref mq])), (m1, .inl (k5, 11, .inl v1)), (m2, .inl (k6, 11, .inl v2)), (mt, .inl (k7, 121, .inl v3))]) hD hS hA [0, 1, 2, 3] rfl
            refine va_calli (va_runV (As := [.int (nI i), .long (lN a), .int (nI (kz x9))]) (rest := []) ⟨hx, hb, hml, hown, hts⟩ (c_X10_corrects (l := l) (D := D) (mo := mo) (mw := mw) (mct := mct) (mp := mp) (mnm := mnm) (m1 := m1) (m2 := m2) (mt := mt) (mk := mk) (mr := mr) (ml := ml) (mq := mq) (k1 := k1) (k2 := k2) (k5 := k5) (k6 := k6) (k7 := k7) (th := nI 0) (n := n) (om := ob) (tm := tb) (f1 := v1) (f2 := v2) (ft := v3) (wd := wd) (ct := ct) (a := a) (i := i) (k := kz x9) (sz := H.size) (hnd := (q_nds hnd [0, 1, 2, 3, 4, 5] rfl rfl)) (hga := c_11.1) (hn40 := hn40) (hgw := by omega) (hcb := by omega) (hi := by omega) (hk9 := hkx)) (cwV 3 hts gX10_correction_X10_corrects rfl rfl rfl (by decide +kernel) ⟨Nat.le_of_ble_eq_true rfl, Nat.le_of_ble_eq_true rfl⟩) ⟨qW_blind, (va_recv hK hP (ci := 9) (q0 := 0) rfl rfl), (qW_of (hR.sub (ws' := [(mw, .inl (k1, 40, .inr (.inl (fun k9 => lN (wd k9))))), (mct, .inl (k2, 40, .inl (fun k9 => nI (ct k9))))]) [0, 1] rfl) (hP.sub (ws' := [(mo, .inr (9, [.int (nI 0), .int (nI n), .ref mw, .ref mct, .ref mp, .ref mnm, .ref m1, .ref m2, .int ob, .int tb, .ref mt, .ref mk, .ref mr, .ref ml, .ref mq])), (m1, .inl (k5, 11, .inl v1)), (m2, .inl (k6, 11, .inl v2)), (mt, .inl (k7, 121, .inl v3))]) [0, 1, 2, 3] rfl) (hK.sub (tys' := [(k5, .int), (k6, .int), (k7, .int), (k1, .long), (k2, .int)]) [0, 1, 2, 3, 4] rfl) hNw)⟩ rfl rfl hl.1 rfl (lv_room (Nat.le_of_ble_eq_true rfl)) dX10_correction_121 ⟨Nat.le_of_ble_eq_true rfl, Nat.le_of_ble_eq_true rfl⟩) hS (fun q _ h => hF q h) hF (fun r_27 u_31 t_30 H_28 locs_29 ht hvm hr_27 hB hz1 hk1 hS => ?_)
            obtain ⟨o2_32, q2_33, g1_34, g2_35, g3_36⟩ := u_31
            dsimp only at hr_27 hB
            replace hB : va_P D vwCl [(mo, .inr (9, [.int (nI 0), .int (nI n), .ref mw, .ref mct, .ref mp, .ref mnm, .ref m1, .ref m2, .int o2_32, .int q2_33, .ref mt, .ref mk, .ref mr, .ref ml, .ref mq])), (m1, .inl (k5, 11, .inl g1_34)), (m2, .inl (k6, 11, .inl g2_35)), (mt, .inl (k7, 121, .inl g3_36))] H_28 := by rw [← ht]; exact hB
            obtain ⟨hP, hD⟩ := q_join (wc := [(mo, .inr (9, [.int (nI 0), .int (nI n), .ref mw, .ref mct, .ref mp, .ref mnm, .ref m1, .ref m2, .int ob, .int tb, .ref mt, .ref mk, .ref mr, .ref ml, .ref mq])), (m1, .inl (k5, 11, .inl v1)), (m2, .inl (k6, 11, .inl v2)), (mt, .inl (k7, 121, .inl v3))]) (w1 := [(mo, .inr (9, [.int (nI 0), .int (nI n), .ref mw, .ref mct, .ref mp, .ref mnm, .ref m1, .ref m2, .int o2_32, .int q2_33, .ref mt, .ref mk, .ref mr, .ref ml, .ref mq])), (m1, .inl (k5, 11, .inl g1_34)), (m2, .inl (k6, 11, .inl g2_35)), (mt, .inl (k7, 121, .inl g3_36))]) (ws' := [(mo, .inr (9, [.int (nI 0), .int (nI n), .ref mw, .ref mct, .ref mp, .ref mnm, .ref m1, .ref m2, .int o2_32, .int q2_33, .ref mt, .ref mk, .ref mr, .ref ml, .ref mq])), (m1, .inl (k5, 11, .inl g1_34)), (m2, .inl (k6, 11, .inl g2_35)), (mt, .inl (k7, 121, .inl g3_36))]) [0, 1, 2, 3] hP hD rfl rfl hk1 hB rfl
            have hR := q_ro hR0 hna hS
            subst hr_27
            refine q_cut 146 (fun (x : (Nat)) (Hc : Heap) (Lc : List Loc) (ls : Array Slot) (st : List Value) => match x with | z2 => (z2 = lwd (fun i => decide (cor wd ct a (kz x9) i ∧ cnt (fun j => decide (cor wd ct a (kz x9) j ∧ rkb (pzf wd a) ct wd j i)) n = kz y9)) wd (i + 1)) ∧ H_28 = Hc ∧ locs_29 = Lc ∧ lv_has ls 11 [(10, .int (nI j)), (9, .int (nI (cnt (fun j => decide (cor wd ct a (kz x9) j ∧ rkb (pzf wd a) ct wd j i)) j))), (8, .int (nI i)), (6, .long (lN (lwd (fun i => decide (cor wd ct a (kz x9) i ∧ cnt (fun j => decide (cor wd ct a (kz x9) j ∧ rkb (pzf wd a) ct wd j i)) n = kz y9)) wd i))), (5, .int (if gw a ∧ 0 ≤ x9 ∧ x9 ≤ nI 3 then 1 else 0)), (0, .ref mo), (1, .long (lN a)), (3, .int (nI (kz x9))), (4, .int (nI (kz y9)))] ∧ [.long (lN z2)] = st) ?_ ?_
            · clear hl
              rintro z2 Hc Lc ls st hI
              obtain ⟨hz2, rfl, rfl, hl, rfl⟩ := hI
              refine lv_lstore (lv' := [(6, .long (lN z2)), (10, .int (nI j)), (9, .int (nI (cnt (fun j => decide (cor wd ct a (kz x9) j ∧ rkb (pzf wd a) ct wd j i)) j))), (8, .int (nI i)), (5, .int (if gw a ∧ 0 ≤ x9 ∧ x9 ≤ nI 3 then 1 else 0)), (0, .ref mo), (1, .long (lN a)), (3, .int (nI (kz x9))), (4, .int (nI (kz y9)))]) hx hb dX10_correction_146 hl (by decide) rfl (fun ls hl => ?_)
              refine lv_iinc (v := nI (i + 1)) (lv' := [(8, .int (nI (i + 1))), (6, .long (lN z2)), (10, .int (nI j)), (9, .int (nI (cnt (fun j => decide (cor wd ct a (kz x9) j ∧ rkb (pzf wd a) ct wd j i)) j))), (5, .int (if gw a ∧ 0 ≤ x9 ∧ x9 ≤ nI 3 then 1 else 0)), (0, .ref mo), (1, .long (lN a)), (3, .int (nI (kz x9))), (4, .int (nI (kz y9)))]) hx hb dX10_correction_148 hl (k := 3) rfl (q_inc (k := 1) (by omega)) (by decide) rfl (fun ls hl => ?_)
              refine lv_goto (tgt := 53) hx hb dX10_correction_151 (by decide) ?_
              rw [hz2] at hl
              exact ih_53 (i + 1, o2_32, q2_33, g1_34, g2_35, g3_36) _ _ _ ⟨(by omega), hP, hD, hS, (lv_sub hl [0, 1, 4, 5, 6, 7, 8] rfl)⟩ (by show n - (i + 1) < n - i; omega)
            · intro hcut_146
              refine q_ifb_eq (tgt := 144) hx hb dX10_correction_124 (by decide) (fun c_124 => ?_) (fun c_124 => ?_)
              · skip
                refine lv_lload hx hb dX10_correction_144 (lv_at hl 3 rfl) ?_
                exact hcut_146 (lwd (fun i => decide (cor wd ct a (kz x9) i ∧ cnt (fun j => decide (cor wd ct a (kz x9) j ∧ rkb (pzf wd a) ct wd j i)) n = kz y9)) wd i) _ _ _ _ ⟨(if_neg (by simp only [decide_eq_true_eq]; exact fun h9 => c_124 h9.1)).symm, rfl, rfl, (lv_sub hl [0, 1, 2, 3, 4, 5, 6, 7, 8] rfl), rfl⟩
              · skip
                refine lv_iload hx hb dX10_correction_127 (lv_at hl 1 rfl) ?_
                refine lv_iload hx hb dX10_correction_129 (lv_at hl 8 rfl) ?_
                refine q_icmp_ne (a := cnt (fun j => decide (cor wd ct a (kz x9) j ∧ rkb (pzf wd a) ct wd j i)) j) (b := kz y9) (tgt := 144) hx hb dX10_correction_131 (by decide) (by omega) (by omega) (fun c_131 => ?_) (fun c_131 => ?_)
                · skip
                  refine lv_lload hx hb dX10_correction_144 (lv_at hl 3 rfl) ?_
                  exact hcut_146 (lwd (fun i => decide (cor wd ct a (kz x9) i ∧ cnt (fun j => decide (cor wd ct a (kz x9) j ∧ rkb (pzf wd a) ct wd j i)) n = kz y9)) wd i) _ _ _ _ ⟨(if_neg (by simp only [decide_eq_true_eq]; rw [← ejn]; exact fun h9 => c_131 h9.2)).symm, rfl, rfl, (lv_sub hl [0, 1, 2, 3, 4, 5, 6, 7, 8] rfl), rfl⟩
                · skip
                  refine lv_aload_n hx hb dX10_correction_134 rfl (lv_at hl 5 rfl) ?_
                  refine va_get (D := D) (own := RX10) (ref := "FuzzyFensModel") (ci := 9) (v := .ref mw) (C := RX10) (T := TX10) (N := 15) hx hb hts iX10_correction_X10 hown hK hP 0 rfl rfl 2 (by decide) (hts (.fieldLink RX10 7 "FuzzyFensModel" "words" "[J") (List.mem_of_getElem? (i := 2) rfl)) (fun _ h9 => h9) rfl dX10_correction_135 ?_
                  refine lv_iload hx hb dX10_correction_138 (lv_at hl 2 rfl) ?_
                  refine va_lald (D := D) hx hb hK hR 0 3 rfl rfl (vp_in_nI (n := i) (N := 40) (by omega) (by decide)) dX10_correction_140 ?_
                  rw [nI_clamp (n := i) (by omega)]
                  refine q_cvl (show (fun k9 => lN (wd k9)) i = lN (wd i) from rfl) ?_
                  refine lv_goto (tgt := 146) hx hb dX10_correction_141 (by decide) ?_
                  exact hcut_146 (wd i) _ _ _ _ ⟨(if_pos (by simp only [decide_eq_true_eq]; rw [← ejn]; exact ⟨c_124, c_131⟩)).symm, rfl, rfl, (lv_sub hl [0, 1, 2, 3, 4, 5, 6, 7, 8] rfl), rfl⟩
          · skip
            refine lv_iload hx hb dX10_correction_77 (lv_at hl 1 rfl) ?_
            refine lv_aload_n hx hb dX10_correction_79 rfl (lv_at hl 5 rfl) ?_
            refine lv_iload hx hb dX10_correction_80 (lv_at hl 0 rfl) ?_
            refine lv_lload_n hx hb dX10_correction_82 rfl (lv_at hl 6 rfl) ?_
            refine lv_iload_n hx hb dX10_correction_83 rfl (lv_at hl 7 rfl) ?_
            have hF := va_free (wc := [(mo, .inr (9, [.int (nI 0), .int (nI n), .ref mw, .ref mct, .ref mp, .ref mnm, .ref m1, .ref m2, .int ob, .int tb, .ref mt, .ref mk, .ref mr, .ref ml, .ref mq])), (m1, .inl (k5, 11, .inl v1)), (m2, .inl (k6, 11, .inl v2)), (mt, .inl (k7, 121, .inl v3))]) hD hS hA [0, 1, 2, 3] rfl
            refine va_calli (va_runV (As := [.int (nI j), .long (lN a), .int (nI (kz x9))]) (rest := [.int (nI (cnt (fun j => decide (cor wd ct a (kz x9) j ∧ rkb (pzf wd a) ct wd j i)) j))]) ⟨hx, hb, hml, hown, hts⟩ (c_X10_corrects (l := l) (D := D) (mo := mo) (mw := mw) (mct := mct) (mp := mp) (mnm := mnm) (m1 := m1) (m2 := m2) (mt := mt) (mk := mk) (mr := mr) (ml := ml) (mq := mq) (k1 := k1) (k2 := k2) (k5 := k5) (k6 := k6) (k7 := k7) (th := nI 0) (n := n) (om := ob) (tm := tb) (f1 := v1) (f2 := v2) (ft := v3) (wd := wd) (ct := ct) (a := a) (i := j) (k := kz x9) (sz := H.size) (hnd := (q_nds hnd [0, 1, 2, 3, 4, 5] rfl rfl)) (hga := c_11.1) (hn40 := hn40) (hgw := by omega) (hcb := by omega) (hi := by omega) (hk9 := hkx)) (cwV 3 hts gX10_correction_X10_corrects rfl rfl rfl (by decide +kernel) ⟨Nat.le_of_ble_eq_true rfl, Nat.le_of_ble_eq_true rfl⟩) ⟨qW_blind, (va_recv hK hP (ci := 9) (q0 := 0) rfl rfl), (qW_of (hR.sub (ws' := [(mw, .inl (k1, 40, .inr (.inl (fun k9 => lN (wd k9))))), (mct, .inl (k2, 40, .inl (fun k9 => nI (ct k9))))]) [0, 1] rfl) (hP.sub (ws' := [(mo, .inr (9, [.int (nI 0), .int (nI n), .ref mw, .ref mct, .ref mp, .ref mnm, .ref m1, .ref m2, .int ob, .int tb, .ref mt, .ref mk, .ref mr, .ref ml, .ref mq])), (m1, .inl (k5, 11, .inl v1)), (m2, .inl (k6, 11, .inl v2)), (mt, .inl (k7, 121, .inl v3))]) [0, 1, 2, 3] rfl) (hK.sub (tys' := [(k5, .int), (k6, .int), (k7, .int), (k1, .long), (k2, .int)]) [0, 1, 2, 3, 4] rfl) hNw)⟩ rfl rfl hl.1 rfl (lv_room (Nat.le_of_ble_eq_true rfl)) dX10_correction_84 ⟨Nat.le_of_ble_eq_true rfl, Nat.le_of_ble_eq_true rfl⟩) hS (fun q _ h => hF q h) hF (fun r_37 u_41 t_40 H_38 locs_39 ht hvm hr_37 hB hz1 hk1 hS => ?_)
            obtain ⟨o2_42, q2_43, g1_44, g2_45, g3_46⟩ := u_41
            dsimp only at hr_37 hB
            replace hB : va_P D vwCl [(mo, .inr (9, [.int (nI 0), .int (nI n), .ref mw, .ref mct, .ref mp, .ref mnm, .ref m1, .ref m2, .int o2_42, .int q2_43, .ref mt, .ref mk, .ref mr, .ref ml, .ref mq])), (m1, .inl (k5, 11, .inl g1_44)), (m2, .inl (k6, 11, .inl g2_45)), (mt, .inl (k7, 121, .inl g3_46))] H_38 := by rw [← ht]; exact hB
            obtain ⟨hP, hD⟩ := q_join (wc := [(mo, .inr (9, [.int (nI 0), .int (nI n), .ref mw, .ref mct, .ref mp, .ref mnm, .ref m1, .ref m2, .int ob, .int tb, .ref mt, .ref mk, .ref mr, .ref ml, .ref mq])), (m1, .inl (k5, 11, .inl v1)), (m2, .inl (k6, 11, .inl v2)), (mt, .inl (k7, 121, .inl v3))]) (w1 := [(mo, .inr (9, [.int (nI 0), .int (nI n), .ref mw, .ref mct, .ref mp, .ref mnm, .ref m1, .ref m2, .int o2_42, .int q2_43, .ref mt, .ref mk, .ref mr, .ref ml, .ref mq])), (m1, .inl (k5, 11, .inl g1_44)), (m2, .inl (k6, 11, .inl g2_45)), (mt, .inl (k7, 121, .inl g3_46))]) (ws' := [(mo, .inr (9, [.int (nI 0), .int (nI n), .ref mw, .ref mct, .ref mp, .ref mnm, .ref m1, .ref m2, .int o2_42, .int q2_43, .ref mt, .ref mk, .ref mr, .ref ml, .ref mq])), (m1, .inl (k5, 11, .inl g1_44)), (m2, .inl (k6, 11, .inl g2_45)), (mt, .inl (k7, 121, .inl g3_46))]) [0, 1, 2, 3] hP hD rfl rfl hk1 hB rfl
            have hR := q_ro hR0 hna hS
            subst hr_37
            refine q_cut 107 (fun (x : (Nat) × (Int32) × (Int32) × (Nat → Int32) × (Nat → Int32) × (Nat → Int32)) (H : Heap) (locs : List Loc) (ls : Array Slot) (st : List Value) => match x with | (z, oc9, tc9, w1, w2, w3) => (cnt (fun j => decide (cor wd ct a (kz x9) j ∧ rkb (pzf wd a) ct wd j i)) j + z = cnt (fun j => decide (cor wd ct a (kz x9) j ∧ rkb (pzf wd a) ct wd j i)) (j + 1)) ∧ va_P D vwCl [(mo, .inr (9, [.int (nI 0), .int (nI n), .ref mw, .ref mct, .ref mp, .ref mnm, .ref m1, .ref m2, .int oc9, .int tc9, .ref mt, .ref mk, .ref mr, .ref ml, .ref mq])), (m1, .inl (k5, 11, .inl w1)), (m2, .inl (k6, 11, .inl w2)), (mt, .inl (k7, 121, .inl w3))] H ∧ va_D A [(mo, .inr (9, [.int (nI 0), .int (nI n), .ref mw, .ref mct, .ref mp, .ref mnm, .ref m1, .ref m2, .int oc9, .int tc9, .ref mt, .ref mk, .ref mr, .ref ml, .ref mq])), (m1, .inl (k5, 11, .inl w1)), (m2, .inl (k6, 11, .inl w2)), (mt, .inl (k7, 121, .inl w3))] ∧ va_S A s.heap H locs ∧ lv_has ls 11 [(10, .int (nI j)), (9, .int (nI (cnt (fun j => decide (cor wd ct a (kz x9) j ∧ rkb (pzf wd a) ct wd j i)) j))), (8, .int (nI i)), (6, .long (lN (lwd (fun i => decide (cor wd ct a (kz x9) i ∧ cnt (fun j => decide (cor wd ct a (kz x9) j ∧ rkb (pzf wd a) ct wd j i)) n = kz y9)) wd i))), (5, .int (if gw a ∧ 0 ≤ x9 ∧ x9 ≤ nI 3 then 1 else 0)), (0, .ref mo), (1, .long (lN a)), (3, .int (nI (kz x9))), (4, .int (nI (kz y9)))] ∧ [.int (nI z), .int (nI (cnt (fun j => decide (cor wd ct a (kz x9) j ∧ rkb (pzf wd a) ct wd j i)) j))] = st) ?_ ?_
            · clear hl; clear hP hD hS
              rintro ⟨z, oc9, tc9, w1, w2, w3⟩ H locs ls st hI
              obtain ⟨hz, hP, hD, hS, hl, rfl⟩ := hI
              have hR := q_ro hR0 hna hS
              refine q_iadd (d := cnt (fun j => decide (cor wd ct a (kz x9) j ∧ rkb (pzf wd a) ct wd j i)) j + z) hx hb dX10_correction_107 (by omega) ?_
              refine q_cvi (show (nI (cnt (fun j => decide (cor wd ct a (kz x9) j ∧ rkb (pzf wd a) ct wd j i)) j + z)) = (nI (cnt (fun j => decide (cor wd ct a (kz x9) j ∧ rkb (pzf wd a) ct wd j i)) (j + 1))) from (by rw [hz])) ?_
              refine lv_istore (lv' := [(9, .int (nI (cnt (fun j => decide (cor wd ct a (kz x9) j ∧ rkb (pzf wd a) ct wd j i)) (j + 1)))), (10, .int (nI j)), (8, .int (nI i)), (6, .long (lN (lwd (fun i => decide (cor wd ct a (kz x9) i ∧ cnt (fun j => decide (cor wd ct a (kz x9) j ∧ rkb (pzf wd a) ct wd j i)) n = kz y9)) wd i))), (5, .int (if gw a ∧ 0 ≤ x9 ∧ x9 ≤ nI 3 then 1 else 0)), (0, .ref mo), (1, .long (lN a)), (3, .int (nI (kz x9))), (4, .int (nI (kz y9)))]) hx hb dX10_correction_108 hl (by decide) rfl (fun ls hl => ?_)
              refine lv_iinc (v := nI (j + 1)) (lv' := [(10, .int (nI (j + 1))), (9, .int (nI (cnt (fun j => decide (cor wd ct a (kz x9) j ∧ rkb (pzf wd a) ct wd j i)) (j + 1)))), (8, .int (nI i)), (6, .long (lN (lwd (fun i => decide (cor wd ct a (kz x9) i ∧ cnt (fun j => decide (cor wd ct a (kz x9) j ∧ rkb (pzf wd a) ct wd j i)) n = kz y9)) wd i))), (5, .int (if gw a ∧ 0 ≤ x9 ∧ x9 ≤ nI 3 then 1 else 0)), (0, .ref mo), (1, .long (lN a)), (3, .int (nI (kz x9))), (4, .int (nI (kz y9)))]) hx hb dX10_correction_110 hl (k := 1) rfl (q_inc (k := 1) (by omega)) (by decide) rfl (fun ls hl => ?_)
              refine lv_goto (tgt := 68) hx hb dX10_correction_113 (by decide) ?_
              exact ih_68 (j + 1, oc9, tc9, w1, w2, w3) _ _ _ ⟨(by omega), hP, hD, hS, (lv_sub hl [0, 1, 2, 3, 4, 5, 6, 7, 8] rfl)⟩ (by show n - (j + 1) < n - j; omega)
            · intro hcut_107
              refine q_ifb_eq (tgt := 106) hx hb dX10_correction_87 (by decide) (fun c_87 => ?_) (fun c_87 => ?_)
              · skip
                refine lv_iconst (v := nI 0) hx hb dX10_correction_106 (by decide) ?_
                exact hcut_107 (0, o2_42, q2_43, g1_44, g2_45, g3_46) _ _ _ _ ⟨(cnt_f (by simp only [decide_eq_true_eq]; exact fun h9 => c_87 h9.1)).symm, hP, hD, hS, (lv_sub hl [0, 1, 2, 3, 4, 5, 6, 7, 8] rfl), rfl⟩
              · skip
                refine lv_aload_n hx hb dX10_correction_90 rfl (lv_at hl 5 rfl) ?_
                refine lv_iload hx hb dX10_correction_91 (lv_at hl 0 rfl) ?_
                refine lv_iload hx hb dX10_correction_93 (lv_at hl 2 rfl) ?_
                refine lv_lload_n hx hb dX10_correction_95 rfl (lv_at hl 6 rfl) ?_
                have hF := va_free (wc := [(mo, .inr (9, [.int (nI 0), .int (nI n), .ref mw, .ref mct, .ref mp, .ref mnm, .ref m1, .ref m2, .int o2_42, .int q2_43, .ref mt, .ref mk, .ref mr, .ref ml, .ref mq])), (m1, .inl (k5, 11, .inl g1_44)), (m2, .inl (k6, 11, .inl g2_45)), (mt, .inl (k7, 121, .inl g3_46))]) hD hS hA [0, 1, 2, 3] rfl
                refine va_calli (va_runV (As := [.int (nI j), .int (nI i), .long (lN a)]) (rest := [.int (nI (cnt (fun j => decide (cor wd ct a (kz x9) j ∧ rkb (pzf wd a) ct wd j i)) j))]) ⟨hx, hb, hml, hown, hts⟩ (c_X10_isBetter (l := l) (D := D) (mo := mo) (mw := mw) (mct := mct) (mp := mp) (mnm := mnm) (m1 := m1) (m2 := m2) (mt := mt) (mk := mk) (mr := mr) (ml := ml) (mq := mq) (k1 := k1) (k2 := k2) (k5 := k5) (k6 := k6) (k7 := k7) (k8 := k8) (th := nI 0) (n := n) (om := o2_42) (tm := q2_43) (f1 := g1_44) (f2 := g2_45) (ft := g3_46) (wd := wd) (ct := ct) (a := a) (i := j) (j := i) (sz := H_38.size) (hnd := (q_nds hnd [0, 1, 2, 3, 4, 5, 6] rfl rfl)) (hga := c_11.1) (hn40 := hn40) (hgw := hgw) (hcb := hcb) (hi := by omega) (hj := by omega)) (cwV 3 hts gX10_correction_X10_isBetter rfl rfl rfl (by decide +kernel) ⟨Nat.le_of_ble_eq_true rfl, Nat.le_of_ble_eq_true rfl⟩) ⟨qW_blind, (va_recv hK hP (ci := 9) (q0 := 0) rfl rfl), (qW_of (hR.sub (ws' := [(mw, .inl (k1, 40, .inr (.inl (fun k9 => lN (wd k9))))), (mct, .inl (k2, 40, .inl (fun k9 => nI (ct k9)))), (mk, .inl (k8, 27, .inl (fun k9 => nI (kyf k9))))]) [0, 1, 2] rfl) (hP.sub (ws' := [(mo, .inr (9, [.int (nI 0), .int (nI n), .ref mw, .ref mct, .ref mp, .ref mnm, .ref m1, .ref m2, .int o2_42, .int q2_43, .ref mt, .ref mk, .ref mr, .ref ml, .ref mq])), (m1, .inl (k5, 11, .inl g1_44)), (m2, .inl (k6, 11, .inl g2_45)), (mt, .inl (k7, 121, .inl g3_46))]) [0, 1, 2, 3] rfl) (hK.sub (tys' := [(k5, .int), (k6, .int), (k7, .int), (k1, .long), (k2, .int), (k8, .int)]) [0, 1, 2, 3, 4, 5] rfl) hNw)⟩ rfl rfl hl.1 rfl (lv_room (Nat.le_of_ble_eq_true rfl)) dX10_correction_96 ⟨Nat.le_of_ble_eq_true rfl, Nat.le_of_ble_eq_true rfl⟩) hS (fun q _ h => hF q h) hF (fun r_47 u_51 t_50 H_48 locs_49 ht hvm hr_47 hB hz1 hk1 hS => ?_)
                obtain ⟨o2_52, q2_53, g1_54, g2_55, g3_56⟩ := u_51
                dsimp only at hr_47 hB
                replace hB : va_P D vwCl [(mo, .inr (9, [.int (nI 0), .int (nI n), .ref mw, .ref mct, .ref mp, .ref mnm, .ref m1, .ref m2, .int o2_52, .int q2_53, .ref mt, .ref mk, .ref mr, .ref ml, .ref mq])), (m1, .inl (k5, 11, .inl g1_54)), (m2, .inl (k6, 11, .inl g2_55)), (mt, .inl (k7, 121, .inl g3_56))] H_48 := by rw [← ht]; exact hB
                obtain ⟨hP, hD⟩ := q_join (wc := [(mo, .inr (9, [.int (nI 0), .int (nI n), .ref mw, .ref mct, .ref mp, .ref mnm, .ref m1, .ref m2, .int o2_42, .int q2_43, .ref mt, .ref mk, .ref mr, .ref ml, .ref mq])), (m1, .inl (k5, 11, .inl g1_44)), (m2, .inl (k6, 11, .inl g2_45)), (mt, .inl (k7, 121, .inl g3_46))]) (w1 := [(mo, .inr (9, [.int (nI 0), .int (nI n), .ref mw, .ref mct, .ref mp, .ref mnm, .ref m1, .ref m2, .int o2_52, .int q2_53, .ref mt, .ref mk, .ref mr, .ref ml, .ref mq])), (m1, .inl (k5, 11, .inl g1_54)), (m2, .inl (k6, 11, .inl g2_55)), (mt, .inl (k7, 121, .inl g3_56))]) (ws' := [(mo, .inr (9, [.int (nI 0), .int (nI n), .ref mw, .ref mct, .ref mp, .ref mnm, .ref m1, .ref m2, .int o2_52, .int q2_53, .ref mt, .ref mk, .ref mr, .ref ml, .ref mq])), (m1, .inl (k5, 11, .inl g1_54)), (m2, .inl (k6, 11, .inl g2_55)), (mt, .inl (k7, 121, .inl g3_56))]) [0, 1, 2, 3] hP hD rfl rfl hk1 hB rfl
                have hR := q_ro hR0 hna hS
                subst hr_47
                refine q_ifb_eq (tgt := 106) hx hb dX10_correction_99 (by decide) (fun c_99 => ?_) (fun c_99 => ?_)
                · skip
                  refine lv_iconst (v := nI 0) hx hb dX10_correction_106 (by decide) ?_
                  exact hcut_107 (0, o2_52, q2_53, g1_54, g2_55, g3_56) _ _ _ _ ⟨(cnt_f (by simp only [decide_eq_true_eq]; exact fun h9 => c_99 h9.2)).symm, hP, hD, hS, (lv_sub hl [0, 1, 2, 3, 4, 5, 6, 7, 8] rfl), rfl⟩
                · skip
                  refine lv_iconst (v := nI 1) hx hb dX10_correction_102 (by decide) ?_
                  refine lv_goto (tgt := 107) hx hb dX10_correction_103 (by decide) ?_
                  exact hcut_107 (1, o2_52, q2_53, g1_54, g2_55, g3_56) _ _ _ _ ⟨(cnt_t (by simp only [decide_eq_true_eq]; exact ⟨c_87, c_99⟩)).symm, hP, hD, hS, (lv_sub hl [0, 1, 2, 3, 4, 5, 6, 7, 8] rfl), rfl⟩
  · skip
    refine lv_iconst (v := nI 1) hx hb dX10_correction_14 (by decide) ?_
    refine lv_goto (tgt := 39) hx hb dX10_correction_15 (by decide) ?_
    have hF := va_free (wc := [(mo, .inr (9, [.int th, .int (nI n), .ref mw, .ref mct, .ref mp, .ref mnm, .ref m1, .ref m2, .int om, .int tm, .ref mt, .ref mk, .ref mr, .ref ml, .ref mq]))]) hD hS hA [0] rfl
    refine va_calli (va_runV (As := [.int (nI 1)]) (rest := []) ⟨hx, hb, hml, hown, hts⟩ (c_X10_goesWell (l := l) (D := D) (mo := mo) (mw := mw) (mct := mct) (mp := mp) (mnm := mnm) (m1 := m1) (m2 := m2) (mt := mt) (mk := mk) (mr := mr) (ml := ml) (mq := mq) (th := th) (n := n) (om := om) (tm := tm) (x9 := 1) (sz := s.heap.size) (hnd := (q_nds hnd [0] rfl rfl)) (hx9 := by omega)) (cwV 1 hts gX10_correction_X10_goesWell rfl rfl rfl (by decide +kernel) ⟨Nat.le_of_ble_eq_true rfl, Nat.le_of_ble_eq_true rfl⟩) ⟨qW_blind, (va_recv hK hP (ci := 9) (q0 := 0) rfl rfl), (qW_of (q_Pof (fun _ h => absurd h List.not_mem_nil)) (hP.sub (ws' := [(mo, .inr (9, [.int th, .int (nI n), .ref mw, .ref mct, .ref mp, .ref mnm, .ref m1, .ref m2, .int om, .int tm, .ref mt, .ref mk, .ref mr, .ref ml, .ref mq]))]) [0] rfl) (hK.sub (tys' := []) [] rfl) hNw)⟩ rfl rfl hl.1 rfl (lv_room (Nat.le_of_ble_eq_true rfl)) dX10_correction_39 ⟨Nat.le_of_ble_eq_true rfl, Nat.le_of_ble_eq_true rfl⟩) hS (fun q _ h => hF q h) hF (fun r_57 u_61 t_60 H_58 locs_59 ht hvm hr_57 hB hz1 hk1 hS => ?_)
    replace hB : va_P D vwCl [(mo, .inr (9, [.int (nI 1), .int (nI n), .ref mw, .ref mct, .ref mp, .ref mnm, .ref m1, .ref m2, .int om, .int tm, .ref mt, .ref mk, .ref mr, .ref ml, .ref mq]))] H_58 := by rw [← ht]; exact hB
    obtain ⟨hP, hD⟩ := q_join (wc := [(mo, .inr (9, [.int th, .int (nI n), .ref mw, .ref mct, .ref mp, .ref mnm, .ref m1, .ref m2, .int om, .int tm, .ref mt, .ref mk, .ref mr, .ref ml, .ref mq]))]) (w1 := [(mo, .inr (9, [.int (nI 1), .int (nI n), .ref mw, .ref mct, .ref mp, .ref mnm, .ref m1, .ref m2, .int om, .int tm, .ref mt, .ref mk, .ref mr, .ref ml, .ref mq]))]) (ws' := [(mo, .inr (9, [.int (nI 1), .int (nI n), .ref mw, .ref mct, .ref mp, .ref mnm, .ref m1, .ref m2, .int om, .int tm, .ref mt, .ref mk, .ref mr, .ref ml, .ref mq])), (m1, .inl (k5, 11, .inl f1)), (m2, .inl (k6, 11, .inl f2)), (mt, .inl (k7, 121, .inl ft))]) [0] hP hD rfl rfl hk1 hB rfl
    have hR := q_ro hR0 hna hS
    subst hr_57
    refine q_ifb_ne (tgt := 47) hx hb dX10_correction_42 (by decide) (fun c9 => absurd c9 (by decide)) (fun _ => ?_)
    refine lv_lconst (v := lN 0) hx hb dX10_correction_45 (by decide) ?_
    exact W.lret (v := lN 0) hx hb hr (fun t9 ht hW => ⟨⟨lN 0, (nI 1, om, tm, f1, f2, ft), rfl, ⟨(by rw [if_neg c_11]), (fun h9 => absurd h9.1 c_11)⟩, by show va_P D vwCl _ t9.heap; rw [ht]; exact hP⟩, hS.F ht⟩) hS.2.2 dX10_correction_46

set_option maxRecDepth 20000 in
theorem iX10_nearest_X10 : ∀ w ∈ wsX100, w ∈ wsX10_nearest := by decide +kernel
set_option maxHeartbeats 4000000 in
set_option maxRecDepth 100000 in
/-- nearest -/
theorem c_X10_nearest (l : Launch) (D : va_G) (sz : Nat) (mo : Nat) (mw : Nat) (mct : Nat) (mp : Nat) (mnm : Nat) (m1 : Nat) (m2 : Nat) (mt : Nat) (mk : Nat) (mr : Nat) (ml : Nat) (mq : Nat) (k1 : ClassId) (k2 : ClassId) (k5 : ClassId) (k6 : ClassId) (k7 : ClassId) (th : Int32) (n : Nat) (om : Int32) (tm : Int32) (f1 : Nat → Int32) (f2 : Nat → Int32) (ft : Nat → Int32) (wd : Nat → Nat) (ct : Nat → Nat) (a : Nat) (hnd : ([mo, m1, m2, mt] ++ [mw, mct]).Nodup) (ha : a < 2 ^ 64) (hn40 : n ≤ 40) (hgw : ∀ k, k < n → gw (wd k)) (hcb : ∀ k, k < n → ct k < 2 ^ 31) : Met l yX10_nearest wsX10_nearest { frames := 4, cells := 0, slots := 0, locals := 100 } (va_Pc [.ref mo, .long (lN a)] (qW D sz ([(mw, .inl (k1, 40, .inr (.inl (fun k9 => lN (wd k9))))), (mct, .inl (k2, 40, .inl (fun k9 => nI (ct k9))))]) [(mo, .inr (9, [.int th, .int (nI n), .ref mw, .ref mct, .ref mp, .ref mnm, .ref m1, .ref m2, .int om, .int tm, .ref mt, .ref mk, .ref mr, .ref ml, .ref mq])), (m1, .inl (k5, 11, .inl f1)), (m2, .inl (k6, 11, .inl f2)), (mt, .inl (k7, 121, .inl ft))] [(k5, .int), (k6, .int), (k7, .int), (k1, .long), (k2, .int)])) (va_Qi (fun (rv : Int32) (uv : (Int32) × (Int32) × (Int32) × (Nat → Int32) × (Nat → Int32) × (Nat → Int32)) => uv.1 = nI (if gw a then 0 else 1) ∧ (gw a → rv = pin (nrs wd ct a n))) (fun (uv : (Int32) × (Int32) × (Int32) × (Nat → Int32) × (Nat → Int32) × (Nat → Int32)) (tv : State) => va_P D vwCl [(mo, .inr (9, [.int uv.1, .int (nI n), .ref mw, .ref mct, .ref mp, .ref mnm, .ref m1, .ref m2, .int uv.2.1, .int uv.2.2.1, .ref mt, .ref mk, .ref mr, .ref ml, .ref mq])), (m1, .inl (k5, 11, .inl uv.2.2.2.1)), (m2, .inl (k6, 11, .inl uv.2.2.2.2.1)), (mt, .inl (k7, 121, .inl uv.2.2.2.2.2))] tv.heap) (va_A [(mo, .inr (9, [.int th, .int (nI n), .ref mw, .ref mct, .ref mp, .ref mnm, .ref m1, .ref m2, .int om, .int tm, .ref mt, .ref mk, .ref mr, .ref ml, .ref mq])), (m1, .inl (k5, 11, .inl f1)), (m2, .inl (k6, 11, .inl f2)), (mt, .inl (k7, 121, .inl ft))] sz)) 0 0 (va_A [(mo, .inr (9, [.int th, .int (nI n), .ref mw, .ref mct, .ref mp, .ref mnm, .ref m1, .ref m2, .int om, .int tm, .ref mt, .ref mk, .ref mr, .ref ml, .ref mq])), (m1, .inl (k5, 11, .inl f1)), (m2, .inl (k6, 11, .inl f2)), (mt, .inl (k7, 121, .inl ft))] sz) := by
  refine Met.ofW (cc := cX10_nearest) (maxL := 6) (ret := (some .int)) (by decide) rfl ?_
  intro pM eM s mi9 argsM belowM methM cM sM B hml hv
  obtain ⟨rfl, hsz, hR0, hP, hK, hNw⟩ := hv
  have hx := B.exec
  have hb := B.bytes
  have hr := B.returns
  have hts := atoms_spec (ws := wsX10_nearest) B.pre
  have hown : s.vm.findClass RX10 = some mi9.cls := findClass_of_methodNamed B.named
  have hlocks := B.notSynchronized
  subst hsz
  have hna := q_na (RW := [(mo, .inr (9, [.int th, .int (nI n), .ref mw, .ref mct, .ref mp, .ref mnm, .ref m1, .ref m2, .int om, .int tm, .ref mt, .ref mk, .ref mr, .ref ml, .ref mq])), (m1, .inl (k5, 11, .inl f1)), (m2, .inl (k6, 11, .inl f2)), (mt, .inl (k7, 121, .inl ft))]) (RO := [(mw, .inl (k1, 40, .inr (.inl (fun k9 => lN (wd k9))))), (mct, .inl (k2, 40, .inl (fun k9 => nI (ct k9))))]) hnd rfl rfl hR0
  have hD := q_D (RW := [(mo, .inr (9, [.int th, .int (nI n), .ref mw, .ref mct, .ref mp, .ref mnm, .ref m1, .ref m2, .int om, .int tm, .ref mt, .ref mk, .ref mr, .ref ml, .ref mq])), (m1, .inl (k5, 11, .inl f1)), (m2, .inl (k6, 11, .inl f2)), (mt, .inl (k7, 121, .inl ft))]) (sz := s.heap.size) hnd rfl
  have hA : ∀ q : Nat, s.heap.size ≤ q → va_A [(mo, .inr (9, [.int th, .int (nI n), .ref mw, .ref mct, .ref mp, .ref mnm, .ref m1, .ref m2, .int om, .int tm, .ref mt, .ref mk, .ref mr, .ref ml, .ref mq])), (m1, .inl (k5, 11, .inl f1)), (m2, .inl (k6, 11, .inl f2)), (mt, .inl (k7, 121, .inl ft))] s.heap.size q := fun q h => Or.inr h
  generalize hAe : va_A [(mo, .inr (9, [.int th, .int (nI n), .ref mw, .ref mct, .ref mp, .ref mnm, .ref m1, .ref m2, .int om, .int tm, .ref mt, .ref mk, .ref mr, .ref ml, .ref mq])), (m1, .inl (k5, 11, .inl f1)), (m2, .inl (k6, 11, .inl f2)), (mt, .inl (k7, 121, .inl ft))] s.heap.size = A at hna hD hA ⊢
  have hS : va_S A s.heap s.heap [] := va_S.rf
  have hR := hR0
  have hP : va_P D vwCl [(mo, .inr (9, [.int th, .int (nI n), .ref mw, .ref mct, .ref mp, .ref mnm, .ref m1, .ref m2, .int om, .int tm, .ref mt, .ref mk, .ref mr, .ref ml, .ref mq])), (m1, .inl (k5, 11, .inl f1)), (m2, .inl (k6, 11, .inl f2)), (mt, .inl (k7, 121, .inl ft))] s.heap := hP
  have hl := lv_entry ([.ref mo, .long (lN a)]) (n := 6) (Nat.le_of_ble_eq_true rfl)
  rw [lg_entry_eq]
  generalize (lg_sl ([.ref mo, .long (lN a)]) ++ List.replicate (6 - (lg_sl ([.ref mo, .long (lN a)])).length) Slot.unset).toArray = ls at hl ⊢
  have hl : lv_has ls 6 [(0, .ref mo), (1, .long (lN a))] := hl
  refine lv_aload_n hx hb dX10_nearest_0 rfl (lv_at hl 0 rfl) ?_
  refine lv_lload_n hx hb dX10_nearest_1 rfl (lv_at hl 1 rfl) ?_
  refine vp_callSi (W.runS (As := [.long (lN a)]) (rest := [.ref mo]) ⟨hx, hb, hml, hown, hts⟩ (c_X10_isWord (l := l) (D := D) (a := a) (ha := ha)) (va_cwS 1 hts gX10_nearest_X10_isWord rfl rfl rfl (by decide +kernel) ⟨Nat.le_of_ble_eq_true rfl, Nat.le_of_ble_eq_true rfl⟩) ⟨qP_blind, (qP_of (q_Pof (fun _ h => absurd h List.not_mem_nil)) (hK.sub (tys' := []) [] rfl) hNw)⟩ rfl rfl hl.1 rfl (lv_room (Nat.le_of_ble_eq_true rfl)) dX10_nearest_2 ⟨Nat.le_of_ble_eq_true rfl, Nat.le_of_ble_eq_true rfl⟩) (fun r_1 hr_1 => ?_)
  subst hr_1
  refine q_ifb_eq (tgt := 12) hx hb dX10_nearest_5 (by decide) (fun c_5 => ?_) (fun c_5 => ?_)
  · skip
    refine lv_iconst (v := nI 1) hx hb dX10_nearest_12 (by decide) ?_
    have hF := va_free (wc := [(mo, .inr (9, [.int th, .int (nI n), .ref mw, .ref mct, .ref mp, .ref mnm, .ref m1, .ref m2, .int om, .int tm, .ref mt, .ref mk, .ref mr, .ref ml, .ref mq]))]) hD hS hA [0] rfl
    refine va_calli (va_runV (As := [.int (nI 1)]) (rest := []) ⟨hx, hb, hml, hown, hts⟩ (c_X10_goesWell (l := l) (D := D) (mo := mo) (mw := mw) (mct := mct) (mp := mp) (mnm := mnm) (m1 := m1) (m2 := m2) (mt := mt) (mk := mk) (mr := mr) (ml := ml) (mq := mq) (th := th) (n := n) (om := om) (tm := tm) (x9 := 1) (sz := s.heap.size) (hnd := (q_nds hnd [0] rfl rfl)) (hx9 := by omega)) (cwV 1 hts gX10_nearest_X10_goesWell rfl rfl rfl (by decide +kernel) ⟨Nat.le_of_ble_eq_true rfl, Nat.le_of_ble_eq_true rfl⟩) ⟨qW_blind, (va_recv hK hP (ci := 9) (q0 := 0) rfl rfl), (qW_of (q_Pof (fun _ h => absurd h List.not_mem_nil)) (hP.sub (ws' := [(mo, .inr (9, [.int th, .int (nI n), .ref mw, .ref mct, .ref mp, .ref mnm, .ref m1, .ref m2, .int om, .int tm, .ref mt, .ref mk, .ref mr, .ref ml, .ref mq]))]) [0] rfl) (hK.sub (tys' := []) [] rfl) hNw)⟩ rfl rfl hl.1 rfl (lv_room (Nat.le_of_ble_eq_true rfl)) dX10_nearest_13 ⟨Nat.le_of_ble_eq_true rfl, Nat.le_of_ble_eq_true rfl⟩) hS (fun q _ h => hF q h) hF (fun r_2 u_6 t_5 H_3 locs_4 ht hvm hr_2 hB hz1 hk1 hS => ?_)
    replace hB : va_P D vwCl [(mo, .inr (9, [.int (nI 1), .int (nI n), .ref mw, .ref mct, .ref mp, .ref mnm, .ref m1, .ref m2, .int om, .int tm, .ref mt, .ref mk, .ref mr, .ref ml, .ref mq]))] H_3 := by rw [← ht]; exact hB
    obtain ⟨hP, hD⟩ := q_join (wc := [(mo, .inr (9, [.int th, .int (nI n), .ref mw, .ref mct, .ref mp, .ref mnm, .ref m1, .ref m2, .int om, .int tm, .ref mt, .ref mk, .ref mr, .ref ml, .ref mq]))]) (w1 := [(mo, .inr (9, [.int (nI 1), .int (nI n), .ref mw, .ref mct, .ref mp, .ref mnm, .ref m1, .ref m2, .int om, .int tm, .ref mt, .ref mk, .ref mr, .ref ml, .ref mq]))]) (ws' := [(mo, .inr (9, [.int (nI 1), .int (nI n), .ref mw, .ref mct, .ref mp, .ref mnm, .ref m1, .ref m2, .int om, .int tm, .ref mt, .ref mk, .ref mr, .ref ml, .ref mq])), (m1, .inl (k5, 11, .inl f1)), (m2, .inl (k6, 11, .inl f2)), (mt, .inl (k7, 121, .inl ft))]) [0] hP hD rfl rfl hk1 hB rfl
    have hR := q_ro hR0 hna hS
    subst hr_2
    refine q_ifb_ne (tgt := 21) hx hb dX10_nearest_16 (by decide) (fun c9 => absurd c9 (by decide)) (fun _ => ?_)
    refine lv_iconst (v := nI 0) hx hb dX10_nearest_19 (by decide) ?_
    exact W.iret (v := nI 0) hx hb hr (fun t9 ht hW => ⟨⟨nI 0, (nI 1, om, tm, f1, f2, ft), rfl, ⟨(by rw [if_neg c_5]), (fun h9 => absurd h9 c_5)⟩, by show va_P D vwCl _ t9.heap; rw [ht]; exact hP⟩, hS.F ht⟩) hS.2.2 dX10_nearest_20
  · skip
    refine lv_iconst (v := nI 0) hx hb dX10_nearest_8 (by decide) ?_
    refine lv_goto (tgt := 13) hx hb dX10_nearest_9 (by decide) ?_
    have hF := va_free (wc := [(mo, .inr (9, [.int th, .int (nI n), .ref mw, .ref mct, .ref mp, .ref mnm, .ref m1, .ref m2, .int om, .int tm, .ref mt, .ref mk, .ref mr, .ref ml, .ref mq]))]) hD hS hA [0] rfl
    refine va_calli (va_runV (As := [.int (nI 0)]) (rest := []) ⟨hx, hb, hml, hown, hts⟩ (c_X10_goesWell (l := l) (D := D) (mo := mo) (mw := mw) (mct := mct) (mp := mp) (mnm := mnm) (m1 := m1) (m2 := m2) (mt := mt) (mk := mk) (mr := mr) (ml := ml) (mq := mq) (th := th) (n := n) (om := om) (tm := tm) (x9 := 0) (sz := s.heap.size) (hnd := (q_nds hnd [0] rfl rfl)) (hx9 := by omega)) (cwV 1 hts gX10_nearest_X10_goesWell rfl rfl rfl (by decide +kernel) ⟨Nat.le_of_ble_eq_true rfl, Nat.le_of_ble_eq_true rfl⟩) ⟨qW_blind, (va_recv hK hP (ci := 9) (q0 := 0) rfl rfl), (qW_of (q_Pof (fun _ h => absurd h List.not_mem_nil)) (hP.sub (ws' := [(mo, .inr (9, [.int th, .int (nI n), .ref mw, .ref mct, .ref mp, .ref mnm, .ref m1, .ref m2, .int om, .int tm, .ref mt, .ref mk, .ref mr, .ref ml, .ref mq]))]) [0] rfl) (hK.sub (tys' := []) [] rfl) hNw)⟩ rfl rfl hl.1 rfl (lv_room (Nat.le_of_ble_eq_true rfl)) dX10_nearest_13 ⟨Nat.le_of_ble_eq_true rfl, Nat.le_of_ble_eq_true rfl⟩) hS (fun q _ h => hF q h) hF (fun r_7 u_11 t_10 H_8 locs_9 ht hvm hr_7 hB hz1 hk1 hS => ?_)
    replace hB : va_P D vwCl [(mo, .inr (9, [.int (nI 0), .int (nI n), .ref mw, .ref mct, .ref mp, .ref mnm, .ref m1, .ref m2, .int om, .int tm, .ref mt, .ref mk, .ref mr, .ref ml, .ref mq]))] H_8 := by rw [← ht]; exact hB
    obtain ⟨hP, hD⟩ := q_join (wc := [(mo, .inr (9, [.int th, .int (nI n), .ref mw, .ref mct, .ref mp, .ref mnm, .ref m1, .ref m2, .int om, .int tm, .ref mt, .ref mk, .ref mr, .ref ml, .ref mq]))]) (w1 := [(mo, .inr (9, [.int (nI 0), .int (nI n), .ref mw, .ref mct, .ref mp, .ref mnm, .ref m1, .ref m2, .int om, .int tm, .ref mt, .ref mk, .ref mr, .ref ml, .ref mq]))]) (ws' := [(mo, .inr (9, [.int (nI 0), .int (nI n), .ref mw, .ref mct, .ref mp, .ref mnm, .ref m1, .ref m2, .int om, .int tm, .ref mt, .ref mk, .ref mr, .ref ml, .ref mq])), (m1, .inl (k5, 11, .inl f1)), (m2, .inl (k6, 11, .inl f2)), (mt, .inl (k7, 121, .inl ft))]) [0] hP hD rfl rfl hk1 hB rfl
    have hR := q_ro hR0 hna hS
    subst hr_7
    refine q_ifb_ne (tgt := 21) hx hb dX10_nearest_16 (by decide) (fun _ => ?_) (fun c9 => absurd (by decide) c9)
    have hwa := gw_wl c_5
    have hla := gw_lt c_5
    refine lv_iconst (v := (-1)) hx hb dX10_nearest_21 (by decide) ?_
    refine lv_istore_n (lv' := [(3, .int ((-1))), (0, .ref mo), (1, .long (lN a))]) hx hb dX10_nearest_22 rfl hl (by decide) rfl (fun ls hl => ?_)
    refine lv_iconst (v := nI 0) hx hb dX10_nearest_23 (by decide) ?_
    refine lv_istore (lv' := [(4, .int (nI 0)), (3, .int ((-1))), (0, .ref mo), (1, .long (lN a))]) hx hb dX10_nearest_24 hl (by decide) rfl (fun ls hl => ?_)
    refine q_loop (fun (x : (Nat) × (Int32) × (Int32) × (Nat → Int32) × (Nat → Int32) × (Nat → Int32)) (H : Heap) (locs : List Loc) (ls : Array Slot) => match x with | (i, oa, ta, u1, u2, u3) => (i ≤ n) ∧ va_P D vwCl [(mo, .inr (9, [.int (nI 0), .int (nI n), .ref mw, .ref mct, .ref mp, .ref mnm, .ref m1, .ref m2, .int oa, .int ta, .ref mt, .ref mk, .ref mr, .ref ml, .ref mq])), (m1, .inl (k5, 11, .inl u1)), (m2, .inl (k6, 11, .inl u2)), (mt, .inl (k7, 121, .inl u3))] H ∧ va_D A [(mo, .inr (9, [.int (nI 0), .int (nI n), .ref mw, .ref mct, .ref mp, .ref mnm, .ref m1, .ref m2, .int oa, .int ta, .ref mt, .ref mk, .ref mr, .ref ml, .ref mq])), (m1, .inl (k5, 11, .inl u1)), (m2, .inl (k6, 11, .inl u2)), (mt, .inl (k7, 121, .inl u3))] ∧ va_S A s.heap H locs ∧ lv_has ls 6 [(4, .int (nI i)), (3, .int (pin (nrs wd ct a i))), (0, .ref mo), (1, .long (lN a))]) (fun (x : (Nat) × (Int32) × (Int32) × (Nat → Int32) × (Nat → Int32) × (Nat → Int32)) => match x with | (i, oa, ta, u1, u2, u3) => n - i) (0, om, tm, f1, f2, ft) ⟨(by omega), hP, hD, hS, (lv_sub hl [0, 1, 2, 3] rfl)⟩ ?_
    clear hl
    clear hP hD hS
    rintro ⟨i, oa, ta, u1, u2, u3⟩ H locs ls hI ih_26
    obtain ⟨hi, hP, hD, hS, hl⟩ := hI
    have hR := q_ro hR0 hna hS
    refine lv_iload hx hb dX10_nearest_26 (lv_at hl 0 rfl) ?_
    refine lv_aload_n hx hb dX10_nearest_28 rfl (lv_at hl 2 rfl) ?_
    refine va_get (D := D) (own := RX10) (ref := "FuzzyFensModel") (ci := 9) (v := .int (nI n)) (C := RX10) (T := TX10) (N := 15) hx hb hts iX10_nearest_X10 hown hK hP 0 rfl rfl 1 (by decide) (hts (.fieldLink RX10 77 "FuzzyFensModel" "many" "I") (List.mem_of_getElem? (i := 1) rfl)) (fun _ h9 => h9) rfl dX10_nearest_29 ?_
    refine q_icmp_ge (a := i) (b := n) (tgt := 83) hx hb dX10_nearest_32 (by decide) (by omega) (by omega) (fun c_32 => ?_) (fun c_32 => ?_)
    · skip
      refine lv_iload_n hx hb dX10_nearest_83 rfl (lv_at hl 1 rfl) ?_
      exact W.iret (v := pin (nrs wd ct a i)) hx hb hr (fun t9 ht hW => ⟨⟨pin (nrs wd ct a i), (nI 0, oa, ta, u1, u2, u3), rfl, ⟨(by rw [if_pos c_5]), (fun _ => by rw [show n = i by omega])⟩, by show va_P D vwCl _ t9.heap; rw [ht]; exact hP⟩, hS.F ht⟩) hS.2.2 dX10_nearest_84
    · skip
      refine lv_aload_n hx hb dX10_nearest_35 rfl (lv_at hl 2 rfl) ?_
      refine lv_lload_n hx hb dX10_nearest_36 rfl (lv_at hl 3 rfl) ?_
      refine lv_aload_n hx hb dX10_nearest_37 rfl (lv_at hl 2 rfl) ?_
      refine va_get (D := D) (own := RX10) (ref := "FuzzyFensModel") (ci := 9) (v := .ref mw) (C := RX10) (T := TX10) (N := 15) hx hb hts iX10_nearest_X10 hown hK hP 0 rfl rfl 2 (by decide) (hts (.fieldLink RX10 7 "FuzzyFensModel" "words" "[J") (List.mem_of_getElem? (i := 2) rfl)) (fun _ h9 => h9) rfl dX10_nearest_38 ?_
      refine lv_iload hx hb dX10_nearest_41 (lv_at hl 0 rfl) ?_
      refine va_lald (D := D) hx hb hK hR 0 3 rfl rfl (vp_in_nI (n := i) (N := 40) (by omega) (by decide)) dX10_nearest_43 ?_
      rw [nI_clamp (n := i) (by omega)]
      refine q_cvl (show (fun k9 => lN (wd k9)) i = lN (wd i) from rfl) ?_
      have hF := va_free (wc := [(mo, .inr (9, [.int (nI 0), .int (nI n), .ref mw, .ref mct, .ref mp, .ref mnm, .ref m1, .ref m2, .int oa, .int ta, .ref mt, .ref mk, .ref mr, .ref ml, .ref mq])), (m1, .inl (k5, 11, .inl u1)), (m2, .inl (k6, 11, .inl u2)), (mt, .inl (k7, 121, .inl u3))]) hD hS hA [0, 1, 2, 3] rfl
      refine va_calli (va_runV (As := [.long (lN a), .long (lN (wd i))]) (rest := []) ⟨hx, hb, hml, hown, hts⟩ (c_X10_apart (l := l) (D := D) (mo := mo) (mw := mw) (mct := mct) (mp := mp) (mnm := mnm) (m1 := m1) (m2 := m2) (mt := mt) (mk := mk) (mr := mr) (ml := ml) (mq := mq) (k5 := k5) (k6 := k6) (k7 := k7) (th := nI 0) (n := n) (om := oa) (tm := ta) (f1 := u1) (f2 := u2) (ft := u3) (a := a) (b := wd i) (sz := H.size) (hnd := (q_nds hnd [0, 1, 2, 3] rfl rfl)) (hwa := hwa) (hwb := gw_wl (hgw i (by omega))) (hla := by omega) (hlb := by have := gw_lt (hgw i (by omega)); omega)) (cwV 2 hts gX10_nearest_X10_apart rfl rfl rfl (by decide +kernel) ⟨Nat.le_of_ble_eq_true rfl, Nat.le_of_ble_eq_true rfl⟩) ⟨qW_blind, (va_recv hK hP (ci := 9) (q0 := 0) rfl rfl), (qW_of (q_Pof (fun _ h => absurd h List.not_mem_nil)) (hP.sub (ws' := [(mo, .inr (9, [.int (nI 0), .int (nI n), .ref mw, .ref mct, .ref mp, .ref mnm, .ref m1, .ref m2, .int oa, .int ta, .ref mt, .ref mk, .ref mr, .ref ml, .ref mq])), (m1, .inl (k5, 11, .inl u1)), (m2, .inl (k6, 11, .inl u2)), (mt, .inl (k7, 121, .inl u3))]) [0, 1, 2, 3] rfl) (hK.sub (tys' := [(k5, .int), (k6, .int), (k7, .int)]) [0, 1, 2] rfl) hNw)⟩ rfl rfl hl.1 rfl (lv_room (Nat.le_of_ble_eq_true rfl)) dX10_nearest_44 ⟨Nat.le_of_ble_eq_true rfl, Nat.le_of_ble_eq_true rfl⟩) hS (fun q _ h => hF q h) hF (fun r_12 u_16 t_15 H_13 locs_14 ht hvm hr_12 hB hz1 hk1 hS => ?_)
      obtain ⟨g1_17, g2_18, g3_19⟩ := u_16
      dsimp only at hr_12 hB
      replace hB : va_P D vwCl [(mo, .inr (9, [.int (nI 0), .int (nI n), .ref mw, .ref mct, .ref mp, .ref mnm, .ref m1, .ref m2, .int (nI (wl a)), .int (nI (wl (wd i))), .ref mt, .ref mk, .ref mr, .ref ml, .ref mq])), (m1, .inl (k5, 11, .inl g1_17)), (m2, .inl (k6, 11, .inl g2_18)), (mt, .inl (k7, 121, .inl g3_19))] H_13 := by rw [← ht]; exact hB
      obtain ⟨hP, hD⟩ := q_join (wc := [(mo, .inr (9, [.int (nI 0), .int (nI n), .ref mw, .ref mct, .ref mp, .ref mnm, .ref m1, .ref m2, .int oa, .int ta, .ref mt, .ref mk, .ref mr, .ref ml, .ref mq])), (m1, .inl (k5, 11, .inl u1)), (m2, .inl (k6, 11, .inl u2)), (mt, .inl (k7, 121, .inl u3))]) (w1 := [(mo, .inr (9, [.int (nI 0), .int (nI n), .ref mw, .ref mct, .ref mp, .ref mnm, .ref m1, .ref m2, .int (nI (wl a)), .int (nI (wl (wd i))), .ref mt, .ref mk, .ref mr, .ref ml, .ref mq])), (m1, .inl (k5, 11, .inl g1_17)), (m2, .inl (k6, 11, .inl g2_18)), (mt, .inl (k7, 121, .inl g3_19))]) (ws' := [(mo, .inr (9, [.int (nI 0), .int (nI n), .ref mw, .ref mct, .ref mp, .ref mnm, .ref m1, .ref m2, .int (nI (wl a)), .int (nI (wl (wd i))), .ref mt, .ref mk, .ref mr, .ref ml, .ref mq])), (m1, .inl (k5, 11, .inl g1_17)), (m2, .inl (k6, 11, .inl g2_18)), (mt, .inl (k7, 121, .inl g3_19))]) [0, 1, 2, 3] hP hD rfl rfl hk1 hB rfl
      have hR := q_ro hR0 hna hS
      subst hr_12
      refine lv_istore (lv' := [(5, .int (nI (lev (ltz a) (ltz (wd i)) (wl a) (wl (wd i))))), (4, .int (nI i)), (3, .int (pin (nrs wd ct a i))), (0, .ref mo), (1, .long (lN a))]) hx hb dX10_nearest_47 hl (by decide) rfl (fun ls hl => ?_)
      refine lv_aload_n hx hb dX10_nearest_49 rfl (lv_at hl 3 rfl) ?_
      refine va_get (D := D) (own := RX10) (ref := "FuzzyFensModel") (ci := 9) (v := .ref mct) (C := RX10) (T := TX10) (N := 15) hx hb hts iX10_nearest_X10 hown hK hP 0 rfl rfl 3 (by decide) (hts (.fieldLink RX10 13 "FuzzyFensModel" "counts" "[I") (List.mem_of_getElem? (i := 3) rfl)) (fun _ h9 => h9) rfl dX10_nearest_50 ?_
      refine lv_iload hx hb dX10_nearest_53 (lv_at hl 1 rfl) ?_
      refine va_iald (D := D) hx hb hK hR 1 4 rfl rfl (vp_in_nI (n := i) (N := 40) (by omega) (by decide)) dX10_nearest_55 ?_
      rw [nI_clamp (n := i) (by omega)]
      refine q_cvi (show (fun k9 => nI (ct k9)) i = nI (ct i) from rfl) ?_
      refine q_cut 76 (fun (x : (Option Nat)) (Hc : Heap) (Lc : List Loc) (ls : Array Slot) (st : List Value) => match x with | y => (y = nrs wd ct a (i + 1)) ∧ H_13 = Hc ∧ locs_14 = Lc ∧ lv_has ls 6 [(5, .int (nI (lev (ltz a) (ltz (wd i)) (wl a) (wl (wd i))))), (4, .int (nI i)), (0, .ref mo), (1, .long (lN a))] ∧ [.int (pin y)] = st) ?_ ?_
      · clear hl
        rintro y Hc Lc ls st hI
        obtain ⟨hy, rfl, rfl, hl, rfl⟩ := hI
        refine lv_istore_n (lv' := [(3, .int (pin y)), (5, .int (nI (lev (ltz a) (ltz (wd i)) (wl a) (wl (wd i))))), (4, .int (nI i)), (0, .ref mo), (1, .long (lN a))]) hx hb dX10_nearest_76 rfl hl (by decide) rfl (fun ls hl => ?_)
        refine lv_iinc (v := nI (i + 1)) (lv' := [(4, .int (nI (i + 1))), (3, .int (pin y)), (5, .int (nI (lev (ltz a) (ltz (wd i)) (wl a) (wl (wd i))))), (0, .ref mo), (1, .long (lN a))]) hx hb dX10_nearest_77 hl (k := 2) rfl (q_inc (k := 1) (by omega)) (by decide) rfl (fun ls hl => ?_)
        refine lv_goto (tgt := 26) hx hb dX10_nearest_80 (by decide) ?_
        rw [hy] at hl
        exact ih_26 (i + 1, nI (wl a), nI (wl (wd i)), g1_17, g2_18, g3_19) _ _ _ ⟨(by omega), hP, hD, hS, (lv_sub hl [0, 1, 3, 4] rfl)⟩ (by show n - (i + 1) < n - i; omega)
      · intro hcut_76
        refine q_if_le (a := ct i) (tgt := 75) hx hb dX10_nearest_56 (by decide) (hcb i (by omega)) (fun c_56 => ?_) (fun c_56 => ?_)
        · skip
          refine lv_iload_n hx hb dX10_nearest_75 rfl (lv_at hl 2 rfl) ?_
          exact hcut_76 (nrs wd ct a i) _ _ _ _ ⟨(if_neg (fun h9 => by have := h9.1; omega)).symm, rfl, rfl, (lv_sub hl [0, 1, 3, 4] rfl), rfl⟩
        · skip
          refine lv_iload_n hx hb dX10_nearest_59 rfl (lv_at hl 2 rfl) ?_
          refine lv_iconst (v := (-1)) hx hb dX10_nearest_60 (by decide) ?_
          refine q_pin_eq (o := nrs wd ct a i) (tgt := 70) hx hb dX10_nearest_61 (by decide) (fun d9 h9 => by have := nrs_lt hwa (fun k hk => gw_wl (hgw k (by omega))) d9 h9; omega) (fun c_61 => ?_) (fun y_61 c_61 => ?_)
          · skip
            have hl : lv_has ls 6 [(5, .int (nI (lev (ltz a) (ltz (wd i)) (wl a) (wl (wd i))))), (4, .int (nI i)), (3, .int ((-1))), (0, .ref mo), (1, .long (lN a))] := by rw [c_61] at hl; exact hl
            refine lv_iload hx hb dX10_nearest_70 (lv_at hl 0 rfl) ?_
            refine lv_goto (tgt := 76) hx hb dX10_nearest_72 (by decide) ?_
            exact hcut_76 (some (lev (ltz a) (ltz (wd i)) (wl a) (wl (wd i)))) _ _ _ _ ⟨(if_pos ⟨c_56, fun d9 h9 => by rw [c_61] at h9; exact nomatch h9⟩).symm, rfl, rfl, (lv_sub hl [0, 1, 3, 4] rfl), rfl⟩
          · skip
            have hdy := nrs_lt hwa (fun k hk => gw_wl (hgw k (by omega))) _ c_61
            have hlv := lev_le (ltz a) (ltz (wd i)) (wl a) (wl (wd i))
            have hwi := gw_wl (hgw i (by omega))
            have hl : lv_has ls 6 [(5, .int (nI (lev (ltz a) (ltz (wd i)) (wl a) (wl (wd i))))), (4, .int (nI i)), (3, .int (nI y_61)), (0, .ref mo), (1, .long (lN a))] := by rw [c_61] at hl; exact hl
            refine lv_iload hx hb dX10_nearest_64 (lv_at hl 0 rfl) ?_
            refine lv_iload_n hx hb dX10_nearest_66 rfl (lv_at hl 2 rfl) ?_
            refine q_icmp_ge (a := lev (ltz a) (ltz (wd i)) (wl a) (wl (wd i))) (b := y_61) (tgt := 75) hx hb dX10_nearest_67 (by decide) (by omega) (by omega) (fun c_67 => ?_) (fun c_67 => ?_)
            · skip
              refine lv_iload_n hx hb dX10_nearest_75 rfl (lv_at hl 2 rfl) ?_
              exact hcut_76 (some y_61) _ _ _ _ ⟨(by rw [← c_61]; exact (if_neg (fun h9 => by have := h9.2 _ c_61; omega)).symm), rfl, rfl, (lv_sub hl [0, 1, 3, 4] rfl), rfl⟩
            · skip
              refine lv_iload hx hb dX10_nearest_70 (lv_at hl 0 rfl) ?_
              refine lv_goto (tgt := 76) hx hb dX10_nearest_72 (by decide) ?_
              exact hcut_76 (some (lev (ltz a) (ltz (wd i)) (wl a) (wl (wd i)))) _ _ _ _ ⟨(if_pos ⟨c_56, fun d9 h9 => by rw [c_61] at h9; cases h9; exact c_67⟩).symm, rfl, rfl, (lv_sub hl [0, 1, 3, 4] rfl), rfl⟩

set_option maxRecDepth 20000 in
theorem iX10_treeNodes_X10 : ∀ w ∈ wsX100, w ∈ wsX10_treeNodes := by decide +kernel
set_option maxHeartbeats 4000000 in
set_option maxRecDepth 100000 in
/-- treeNodes -/
theorem c_X10_treeNodes (l : Launch) (D : va_G) (sz : Nat) (mo : Nat) (mw : Nat) (mct : Nat) (mp : Nat) (mnm : Nat) (m1 : Nat) (m2 : Nat) (mt : Nat) (mk : Nat) (mr : Nat) (ml : Nat) (mq : Nat) (th : Int32) (n : Nat) (om : Int32) (tm : Int32) (hnd : ([mo] ++ []).Nodup)  : Met l yX10_treeNodes wsX10_treeNodes { frames := 0, cells := 0, slots := 0, locals := 0 } (va_Pc [.ref mo] (qW D sz ([]) [(mo, .inr (9, [.int th, .int (nI n), .ref mw, .ref mct, .ref mp, .ref mnm, .ref m1, .ref m2, .int om, .int tm, .ref mt, .ref mk, .ref mr, .ref ml, .ref mq]))] [])) (va_Qi (fun (rv : Int32) (uv : Unit) => rv = nI n) (fun (uv : Unit) (tv : State) => va_P D vwCl [(mo, .inr (9, [.int (nI 0), .int (nI n), .ref mw, .ref mct, .ref mp, .ref mnm, .ref m1, .ref m2, .int om, .int tm, .ref mt, .ref mk, .ref mr, .ref ml, .ref mq]))] tv.heap) (va_A [(mo, .inr (9, [.int th, .int (nI n), .ref mw, .ref mct, .ref mp, .ref mnm, .ref m1, .ref m2, .int om, .int tm, .ref mt, .ref mk, .ref mr, .ref ml, .ref mq]))] sz)) 0 0 (va_A [(mo, .inr (9, [.int th, .int (nI n), .ref mw, .ref mct, .ref mp, .ref mnm, .ref m1, .ref m2, .int om, .int tm, .ref mt, .ref mk, .ref mr, .ref ml, .ref mq]))] sz) := by
  refine Met.ofW (cc := cX10_treeNodes) (maxL := 1) (ret := (some .int)) (by decide) rfl ?_
  intro pM eM s mi9 argsM belowM methM cM sM B hml hv
  obtain ⟨rfl, hsz, hR0, hP, hK, hNw⟩ := hv
  have hx := B.exec
  have hb := B.bytes
  have hr := B.returns
  have hts := atoms_spec (ws := wsX10_treeNodes) B.pre
  have hown : s.vm.findClass RX10 = some mi9.cls := findClass_of_methodNamed B.named
  have hlocks := B.notSynchronized
  subst hsz
  have hna := q_na (RW := [(mo, .inr (9, [.int th, .int (nI n), .ref mw, .ref mct, .ref mp, .ref mnm, .ref m1, .ref m2, .int om, .int tm, .ref mt, .ref mk, .ref mr, .ref ml, .ref mq]))]) (RO := []) hnd rfl rfl hR0
  have hD := q_D (RW := [(mo, .inr (9, [.int th, .int (nI n), .ref mw, .ref mct, .ref mp, .ref mnm, .ref m1, .ref m2, .int om, .int tm, .ref mt, .ref mk, .ref mr, .ref ml, .ref mq]))]) (sz := s.heap.size) hnd rfl
  have hA : ∀ q : Nat, s.heap.size ≤ q → va_A [(mo, .inr (9, [.int th, .int (nI n), .ref mw, .ref mct, .ref mp, .ref mnm, .ref m1, .ref m2, .int om, .int tm, .ref mt, .ref mk, .ref mr, .ref ml, .ref mq]))] s.heap.size q := fun q h => Or.inr h
  generalize hAe : va_A [(mo, .inr (9, [.int th, .int (nI n), .ref mw, .ref mct, .ref mp, .ref mnm, .ref m1, .ref m2, .int om, .int tm, .ref mt, .ref mk, .ref mr, .ref ml, .ref mq]))] s.heap.size = A at hna hD hA ⊢
  have hS : va_S A s.heap s.heap [] := va_S.rf
  have hR := hR0
  have hP : va_P D vwCl [(mo, .inr (9, [.int th, .int (nI n), .ref mw, .ref mct, .ref mp, .ref mnm, .ref m1, .ref m2, .int om, .int tm, .ref mt, .ref mk, .ref mr, .ref ml, .ref mq]))] s.heap := hP
  have hl := lv_entry ([.ref mo]) (n := 1) (Nat.le_of_ble_eq_true rfl)
  rw [lg_entry_eq]
  generalize (lg_sl ([.ref mo]) ++ List.replicate (1 - (lg_sl ([.ref mo])).length) Slot.unset).toArray = ls at hl ⊢
  have hl : lv_has ls 1 [(0, .ref mo)] := hl
  refine lv_aload_n hx hb dX10_treeNodes_0 rfl (lv_at hl 0 rfl) ?_
  refine lv_iconst (v := nI 0) hx hb dX10_treeNodes_1 (by decide) ?_
  refine va_put (D := D) (ci := 9) (v := .int (nI 0)) (ty := .int) (C := RX10) (T := TX10) (N := 15) hx hb hts iX10_treeNodes_X10 tyX10 tyX10_ok nmX10 hown hK hP hD hS 0 rfl rfl 0 (by decide) (hts (.fieldLink RX10 44 "FuzzyFensModel" "thrown" "I") (List.mem_of_getElem? (i := 1) rfl)) (fun _ h9 => h9) rfl (by decide +kernel) rfl rfl (Nat.le_of_ble_eq_true rfl) dX10_treeNodes_2 (fun H_1 locs_2 hP hD hS => ?_)
  have hP : va_P D vwCl [(mo, .inr (9, [.int (nI 0), .int (nI n), .ref mw, .ref mct, .ref mp, .ref mnm, .ref m1, .ref m2, .int om, .int tm, .ref mt, .ref mk, .ref mr, .ref ml, .ref mq]))] H_1 := hP
  have hD : va_D A [(mo, .inr (9, [.int (nI 0), .int (nI n), .ref mw, .ref mct, .ref mp, .ref mnm, .ref m1, .ref m2, .int om, .int tm, .ref mt, .ref mk, .ref mr, .ref ml, .ref mq]))] := hD
  have hR := q_ro hR0 hna hS
  refine lv_aload_n hx hb dX10_treeNodes_5 rfl (lv_at hl 0 rfl) ?_
  refine va_get (D := D) (own := RX10) (ref := "FuzzyFensModel") (ci := 9) (v := .int (nI n)) (C := RX10) (T := TX10) (N := 15) hx hb hts iX10_treeNodes_X10 hown hK hP 0 rfl rfl 1 (by decide) (hts (.fieldLink RX10 77 "FuzzyFensModel" "many" "I") (List.mem_of_getElem? (i := 2) rfl)) (fun _ h9 => h9) rfl dX10_treeNodes_6 ?_
  exact W.iret (v := nI n) hx hb hr (fun t9 ht hW => ⟨⟨nI n, (), rfl, rfl, by show va_P D vwCl _ t9.heap; rw [ht]; exact hP⟩, hS.F ht⟩) hS.2.2 dX10_treeNodes_9

set_option maxRecDepth 20000 in
theorem iX10_treeParent_X10 : ∀ w ∈ wsX100, w ∈ wsX10_treeParent := by decide +kernel
set_option maxHeartbeats 4000000 in
set_option maxRecDepth 100000 in
/-- treeParent -/
theorem c_X10_treeParent (l : Launch) (D : va_G) (sz : Nat) (mo : Nat) (mw : Nat) (mct : Nat) (mp : Nat) (mnm : Nat) (m1 : Nat) (m2 : Nat) (mt : Nat) (mk : Nat) (mr : Nat) (ml : Nat) (mq : Nat) (k1 : ClassId) (k3 : ClassId) (th : Int32) (n : Nat) (om : Int32) (tm : Int32) (wd : Nat → Nat) (pa : Nat → Option Nat) (a : Nat) (hnd : ([mo] ++ [mw, mp]).Nodup) (ha : a < 2 ^ 64) (hn40 : n ≤ 40) (hgw : ∀ k, k < n → gw (wd k)) (hinj : ∀ i j, i < n → j < n → wd i = wd j → i = j) (hpn : ∀ k i, k < n → pa k = some i → i < k) : Met l yX10_treeParent wsX10_treeParent { frames := 2, cells := 0, slots := 0, locals := 48 } (va_Pc [.ref mo, .long (lN a)] (qW D sz ([(mw, .inl (k1, 40, .inr (.inl (fun k9 => lN (wd k9))))), (mp, .inl (k3, 40, .inl (fun k9 => pin (pa k9))))]) [(mo, .inr (9, [.int th, .int (nI n), .ref mw, .ref mct, .ref mp, .ref mnm, .ref m1, .ref m2, .int om, .int tm, .ref mt, .ref mk, .ref mr, .ref ml, .ref mq]))] [(k1, .long), (k3, .int)])) (va_Ql (fun (rv : Int64) (uv : (Int32)) => uv = nI (if gw a then 0 else 1) ∧ (gw a → rv = lnn wd ((ffi (fun k => decide (wd k = a)) n).bind pa))) (fun (uv : (Int32)) (tv : State) => va_P D vwCl [(mo, .inr (9, [.int uv, .int (nI n), .ref mw, .ref mct, .ref mp, .ref mnm, .ref m1, .ref m2, .int om, .int tm, .ref mt, .ref mk, .ref mr, .ref ml, .ref mq]))] tv.heap) (va_A [(mo, .inr (9, [.int th, .int (nI n), .ref mw, .ref mct, .ref mp, .ref mnm, .ref m1, .ref m2, .int om, .int tm, .ref mt, .ref mk, .ref mr, .ref ml, .ref mq]))] sz)) 0 0 (va_A [(mo, .inr (9, [.int th, .int (nI n), .ref mw, .ref mct, .ref mp, .ref mnm, .ref m1, .ref m2, .int om, .int tm, .ref mt, .ref mk, .ref mr, .ref ml, .ref mq]))] sz) := by
  refine Met.ofW (cc := cX10_treeParent) (maxL := 4) (ret := (some .long)) (by decide) rfl ?_
  intro pM eM s mi9 argsM belowM methM cM sM B hml hv
  obtain ⟨rfl, hsz, hR0, hP, hK, hNw⟩ := hv
  have hx := B.exec
  have hb := B.bytes
  have hr := B.returns
  have hts := atoms_spec (ws := wsX10_treeParent) B.pre
  have hown : s.vm.findClass RX10 = some mi9.cls := findClass_of_methodNamed B.named
  have hlocks := B.notSynchronized
  subst hsz
  have hna := q_na (RW := [(mo, .inr (9, [.int th, .int (nI n), .ref mw, .ref mct, .ref mp, .ref mnm, .ref m1, .ref m2, .int om, .int tm, .ref mt, .ref mk, .ref mr, .ref ml, .ref mq]))]) (RO := [(mw, .inl (k1, 40, .inr (.inl (fun k9 => lN (wd k9))))), (mp, .inl (k3, 40, .inl (fun k9 => pin (pa k9))))]) hnd rfl rfl hR0
  have hD := q_D (RW := [(mo, .inr (9, [.int th, .int (nI n), .ref mw, .ref mct, .ref mp, .ref mnm, .ref m1, .ref m2, .int om, .int tm, .ref mt, .ref mk, .ref mr, .ref ml, .ref mq]))]) (sz := s.heap.size) hnd rfl
  have hA : ∀ q : Nat, s.heap.size ≤ q → va_A [(mo, .inr (9, [.int th, .int (nI n), .ref mw, .ref mct, .ref mp, .ref mnm, .ref m1, .ref m2, .int om, .int tm, .ref mt, .ref mk, .ref mr, .ref ml, .ref mq]))] s.heap.size q := fun q h => Or.inr h
  generalize hAe : va_A [(mo, .inr (9, [.int th, .int (nI n), .ref mw, .ref mct, .ref mp, .ref mnm, .ref m1, .ref m2, .int om, .int tm, .ref mt, .ref mk, .ref mr, .ref ml, .ref mq]))] s.heap.size = A at hna hD hA ⊢
  have hS : va_S A s.heap s.heap [] := va_S.rf
  have hR := hR0
  have hP : va_P D vwCl [(mo, .inr (9, [.int th, .int (nI n), .ref mw, .ref mct, .ref mp, .ref mnm, .ref m1, .ref m2, .int om, .int tm, .ref mt, .ref mk, .ref mr, .ref ml, .ref mq]))] s.heap := hP
  have hl := lv_entry ([.ref mo, .long (lN a)]) (n := 4) (Nat.le_of_ble_eq_true rfl)
  rw [lg_entry_eq]
  generalize (lg_sl ([.ref mo, .long (lN a)]) ++ List.replicate (4 - (lg_sl ([.ref mo, .long (lN a)])).length) Slot.unset).toArray = ls at hl ⊢
  have hl : lv_has ls 4 [(0, .ref mo), (1, .long (lN a))] := hl
  refine lv_aload_n hx hb dX10_treeParent_0 rfl (lv_at hl 0 rfl) ?_
  refine lv_lload_n hx hb dX10_treeParent_1 rfl (lv_at hl 1 rfl) ?_
  refine vp_callSi (W.runS (As := [.long (lN a)]) (rest := [.ref mo]) ⟨hx, hb, hml, hown, hts⟩ (c_X10_isWord (l := l) (D := D) (a := a) (ha := ha)) (va_cwS 1 hts gX10_treeParent_X10_isWord rfl rfl rfl (by decide +kernel) ⟨Nat.le_of_ble_eq_true rfl, Nat.le_of_ble_eq_true rfl⟩) ⟨qP_blind, (qP_of (q_Pof (fun _ h => absurd h List.not_mem_nil)) (hK.sub (tys' := []) [] rfl) hNw)⟩ rfl rfl hl.1 rfl (lv_room (Nat.le_of_ble_eq_true rfl)) dX10_treeParent_2 ⟨Nat.le_of_ble_eq_true rfl, Nat.le_of_ble_eq_true rfl⟩) (fun r_1 hr_1 => ?_)
  subst hr_1
  refine q_ifb_eq (tgt := 12) hx hb dX10_treeParent_5 (by decide) (fun c_5 => ?_) (fun c_5 => ?_)
  · skip
    refine lv_iconst (v := nI 1) hx hb dX10_treeParent_12 (by decide) ?_
    have hF := va_free (wc := [(mo, .inr (9, [.int th, .int (nI n), .ref mw, .ref mct, .ref mp, .ref mnm, .ref m1, .ref m2, .int om, .int tm, .ref mt, .ref mk, .ref mr, .ref ml, .ref mq]))]) hD hS hA [0] rfl
    refine va_calli (va_runV (As := [.int (nI 1)]) (rest := []) ⟨hx, hb, hml, hown, hts⟩ (c_X10_goesWell (l := l) (D := D) (mo := mo) (mw := mw) (mct := mct) (mp := mp) (mnm := mnm) (m1 := m1) (m2 := m2) (mt := mt) (mk := mk) (mr := mr) (ml := ml) (mq := mq) (th := th) (n := n) (om := om) (tm := tm) (x9 := 1) (sz := s.heap.size) (hnd := (q_nds hnd [0] rfl rfl)) (hx9 := by omega)) (cwV 1 hts gX10_treeParent_X10_goesWell rfl rfl rfl (by decide +kernel) ⟨Nat.le_of_ble_eq_true rfl, Nat.le_of_ble_eq_true rfl⟩) ⟨qW_blind, (va_recv hK hP (ci := 9) (q0 := 0) rfl rfl), (qW_of (q_Pof (fun _ h => absurd h List.not_mem_nil)) (hP.sub (ws' := [(mo, .inr (9, [.int th, .int (nI n), .ref mw, .ref mct, .ref mp, .ref mnm, .ref m1, .ref m2, .int om, .int tm, .ref mt, .ref mk, .ref mr, .ref ml, .ref mq]))]) [0] rfl) (hK.sub (tys' := []) [] rfl) hNw)⟩ rfl rfl hl.1 rfl (lv_room (Nat.le_of_ble_eq_true rfl)) dX10_treeParent_13 ⟨Nat.le_of_ble_eq_true rfl, Nat.le_of_ble_eq_true rfl⟩) hS (fun q _ h => hF q h) hF (fun r_2 u_6 t_5 H_3 locs_4 ht hvm hr_2 hB hz1 hk1 hS => ?_)
    replace hB : va_P D vwCl [(mo, .inr (9, [.int (nI 1), .int (nI n), .ref mw, .ref mct, .ref mp, .ref mnm, .ref m1, .ref m2, .int om, .int tm, .ref mt, .ref mk, .ref mr, .ref ml, .ref mq]))] H_3 := by rw [← ht]; exact hB
    obtain ⟨hP, hD⟩ := q_join (wc := [(mo, .inr (9, [.int th, .int (nI n), .ref mw, .ref mct, .ref mp, .ref mnm, .ref m1, .ref m2, .int om, .int tm, .ref mt, .ref mk, .ref mr, .ref ml, .ref mq]))]) (w1 := [(mo, .inr (9, [.int (nI 1), .int (nI n), .ref mw, .ref mct, .ref mp, .ref mnm, .ref m1, .ref m2, .int om, .int tm, .ref mt, .ref mk, .ref mr, .ref ml, .ref mq]))]) (ws' := [(mo, .inr (9, [.int (nI 1), .int (nI n), .ref mw, .ref mct, .ref mp, .ref mnm, .ref m1, .ref m2, .int om, .int tm, .ref mt, .ref mk, .ref mr, .ref ml, .ref mq]))]) [0] hP hD rfl rfl hk1 hB rfl
    have hR := q_ro hR0 hna hS
    subst hr_2
    refine q_ifb_ne (tgt := 21) hx hb dX10_treeParent_16 (by decide) (fun c9 => absurd c9 (by decide)) (fun _ => ?_)
    refine lv_lconst (v := lN 0) hx hb dX10_treeParent_19 (by decide) ?_
    exact W.lret (v := lN 0) hx hb hr (fun t9 ht hW => ⟨⟨lN 0, nI 1, rfl, ⟨(by rw [if_neg c_5]), (fun h9 => absurd h9 c_5)⟩, by show va_P D vwCl _ t9.heap; rw [ht]; exact hP⟩, hS.F ht⟩) hS.2.2 dX10_treeParent_20
  · skip
    refine lv_iconst (v := nI 0) hx hb dX10_treeParent_8 (by decide) ?_
    refine lv_goto (tgt := 13) hx hb dX10_treeParent_9 (by decide) ?_
    have hF := va_free (wc := [(mo, .inr (9, [.int th, .int (nI n), .ref mw, .ref mct, .ref mp, .ref mnm, .ref m1, .ref m2, .int om, .int tm, .ref mt, .ref mk, .ref mr, .ref ml, .ref mq]))]) hD hS hA [0] rfl
    refine va_calli (va_runV (As := [.int (nI 0)]) (rest := []) ⟨hx, hb, hml, hown, hts⟩ (c_X10_goesWell (l := l) (D := D) (mo := mo) (mw := mw) (mct := mct) (mp := mp) (mnm := mnm) (m1 := m1) (m2 := m2) (mt := mt) (mk := mk) (mr := mr) (ml := ml) (mq := mq) (th := th) (n := n) (om := om) (tm := tm) (x9 := 0) (sz := s.heap.size) (hnd := (q_nds hnd [0] rfl rfl)) (hx9 := by omega)) (cwV 1 hts gX10_treeParent_X10_goesWell rfl rfl rfl (by decide +kernel) ⟨Nat.le_of_ble_eq_true rfl, Nat.le_of_ble_eq_true rfl⟩) ⟨qW_blind, (va_recv hK hP (ci := 9) (q0 := 0) rfl rfl), (qW_of (q_Pof (fun _ h => absurd h List.not_mem_nil)) (hP.sub (ws' := [(mo, .inr (9, [.int th, .int (nI n), .ref mw, .ref mct, .ref mp, .ref mnm, .ref m1, .ref m2, .int om, .int tm, .ref mt, .ref mk, .ref mr, .ref ml, .ref mq]))]) [0] rfl) (hK.sub (tys' := []) [] rfl) hNw)⟩ rfl rfl hl.1 rfl (lv_room (Nat.le_of_ble_eq_true rfl)) dX10_treeParent_13 ⟨Nat.le_of_ble_eq_true rfl, Nat.le_of_ble_eq_true rfl⟩) hS (fun q _ h => hF q h) hF (fun r_7 u_11 t_10 H_8 locs_9 ht hvm hr_7 hB hz1 hk1 hS => ?_)
    replace hB : va_P D vwCl [(mo, .inr (9, [.int (nI 0), .int (nI n), .ref mw, .ref mct, .ref mp, .ref mnm, .ref m1, .ref m2, .int om, .int tm, .ref mt, .ref mk, .ref mr, .ref ml, .ref mq]))] H_8 := by rw [← ht]; exact hB
    obtain ⟨hP, hD⟩ := q_join (wc := [(mo, .inr (9, [.int th, .int (nI n), .ref mw, .ref mct, .ref mp, .ref mnm, .ref m1, .ref m2, .int om, .int tm, .ref mt, .ref mk, .ref mr, .ref ml, .ref mq]))]) (w1 := [(mo, .inr (9, [.int (nI 0), .int (nI n), .ref mw, .ref mct, .ref mp, .ref mnm, .ref m1, .ref m2, .int om, .int tm, .ref mt, .ref mk, .ref mr, .ref ml, .ref mq]))]) (ws' := [(mo, .inr (9, [.int (nI 0), .int (nI n), .ref mw, .ref mct, .ref mp, .ref mnm, .ref m1, .ref m2, .int om, .int tm, .ref mt, .ref mk, .ref mr, .ref ml, .ref mq]))]) [0] hP hD rfl rfl hk1 hB rfl
    have hR := q_ro hR0 hna hS
    subst hr_7
    refine q_ifb_ne (tgt := 21) hx hb dX10_treeParent_16 (by decide) (fun _ => ?_) (fun c9 => absurd (by decide) c9)
    refine lv_aload_n hx hb dX10_treeParent_21 rfl (lv_at hl 0 rfl) ?_
    refine lv_lload_n hx hb dX10_treeParent_22 rfl (lv_at hl 1 rfl) ?_
    refine vp_callSi (W.runV (As := [.long (lN a)]) (rest := []) ⟨hx, hb, hml, hown, hts⟩ (c_X10_find (l := l) (D := D) (mo := mo) (mw := mw) (mct := mct) (mp := mp) (mnm := mnm) (m1 := m1) (m2 := m2) (mt := mt) (mk := mk) (mr := mr) (ml := ml) (mq := mq) (k1 := k1) (th := nI 0) (n := n) (om := om) (tm := tm) (wd := wd) (v := a) (hv9 := by have := gw_lt c_5; omega) (hn40 := hn40) (hgw := hgw) (hinj := hinj)) (cwV 1 hts gX10_treeParent_X10_find rfl rfl rfl (by decide +kernel) ⟨Nat.le_of_ble_eq_true rfl, Nat.le_of_ble_eq_true rfl⟩) ⟨qP_blind, (va_recv hK hP (ci := 9) (q0 := 0) rfl rfl), (qP_of (show va_P D vwCl [(mo, .inr (9, [.int (nI 0), .int (nI n), .ref mw, .ref mct, .ref mp, .ref mnm, .ref m1, .ref m2, .int om, .int tm, .ref mt, .ref mk, .ref mr, .ref ml, .ref mq])), (mw, .inl (k1, 40, .inr (.inl (fun k9 => lN (wd k9)))))] _ from (va_P.app (hP.sub (ws' := [(mo, .inr (9, [.int (nI 0), .int (nI n), .ref mw, .ref mct, .ref mp, .ref mnm, .ref m1, .ref m2, .int om, .int tm, .ref mt, .ref mk, .ref mr, .ref ml, .ref mq]))]) [0] rfl) (hR.sub (ws' := [(mw, .inl (k1, 40, .inr (.inl (fun k9 => lN (wd k9)))))]) [0] rfl))) (hK.sub (tys' := [(k1, .long)]) [0] rfl) hNw)⟩ rfl rfl hl.1 rfl (lv_room (Nat.le_of_ble_eq_true rfl)) dX10_treeParent_23 ⟨Nat.le_of_ble_eq_true rfl, Nat.le_of_ble_eq_true rfl⟩) (fun r_12 hr_12 => ?_)
    subst hr_12
    refine lv_istore_n (lv' := [(3, .int (pin (ffi (fun k => decide (wd k = a)) n))), (0, .ref mo), (1, .long (lN a))]) hx hb dX10_treeParent_26 rfl hl (by decide) rfl (fun ls hl => ?_)
    refine lv_iload_n hx hb dX10_treeParent_27 rfl (lv_at hl 0 rfl) ?_
    refine lv_iconst (v := (-1)) hx hb dX10_treeParent_28 (by decide) ?_
    refine q_pin_eq (o := ffi (fun k => decide (wd k = a)) n) (tgt := 42) hx hb dX10_treeParent_29 (by decide) (fun i9 h9 => by have := (ffi_some h9).1; omega) (fun c_29 => ?_) (fun i7 c_29 => ?_)
    · skip
      have hl : lv_has ls 4 [(3, .int ((-1))), (0, .ref mo), (1, .long (lN a))] := by rw [c_29] at hl; exact hl
      refine lv_ldc2 (v := -1) hx hb hown (hts (.constantLong RX10 148 (-1)) (List.mem_of_getElem? (i := 2) rfl)) dX10_treeParent_42 ?_
      refine lv_goto (tgt := 59) hx hb dX10_treeParent_45 (by decide) ?_
      exact W.lret (v := (-1)) hx hb hr (fun t9 ht hW => ⟨⟨(-1), nI 0, rfl, ⟨(by rw [if_pos c_5]), (fun _ => by rw [c_29]; rfl)⟩, by show va_P D vwCl _ t9.heap; rw [ht]; exact hP⟩, hS.F ht⟩) hS.2.2 dX10_treeParent_59
    · skip
      have hi7 := (ffi_some c_29).1
      have hl : lv_has ls 4 [(3, .int (nI i7)), (0, .ref mo), (1, .long (lN a))] := by rw [c_29] at hl; exact hl
      refine lv_aload_n hx hb dX10_treeParent_32 rfl (lv_at hl 1 rfl) ?_
      refine va_get (D := D) (own := RX10) (ref := "FuzzyFensModel") (ci := 9) (v := .ref mp) (C := RX10) (T := TX10) (N := 15) hx hb hts iX10_treeParent_X10 hown hK hP 0 rfl rfl 4 (by decide) (hts (.fieldLink RX10 17 "FuzzyFensModel" "parents" "[I") (List.mem_of_getElem? (i := 1) rfl)) (fun _ h9 => h9) rfl dX10_treeParent_33 ?_
      refine lv_iload_n hx hb dX10_treeParent_36 rfl (lv_at hl 0 rfl) ?_
      refine va_iald (D := D) hx hb hK hR 1 1 rfl rfl (vp_in_nI (n := i7) (N := 40) (by omega) (by decide)) dX10_treeParent_37 ?_
      rw [nI_clamp (n := i7) (by omega)]
      refine q_cvi (show (fun k9 => pin (pa k9)) i7 = pin (pa i7) from rfl) ?_
      refine lv_iconst (v := (-1)) hx hb dX10_treeParent_38 (by decide) ?_
      refine q_pin_ne (o := pa i7) (tgt := 48) hx hb dX10_treeParent_39 (by decide) (fun i9 h9 => by have := hpn _ _ hi7 h9; omega) (fun c_39 => ?_) (fun q7 c_39 => ?_)
      · skip
        refine lv_ldc2 (v := -1) hx hb hown (hts (.constantLong RX10 148 (-1)) (List.mem_of_getElem? (i := 2) rfl)) dX10_treeParent_42 ?_
        refine lv_goto (tgt := 59) hx hb dX10_treeParent_45 (by decide) ?_
        exact W.lret (v := (-1)) hx hb hr (fun t9 ht hW => ⟨⟨(-1), nI 0, rfl, ⟨(by rw [if_pos c_5]), (fun _ => by rw [c_29]; show _ = lnn wd (pa i7); rw [c_39]; rfl)⟩, by show va_P D vwCl _ t9.heap; rw [ht]; exact hP⟩, hS.F ht⟩) hS.2.2 dX10_treeParent_59
      · skip
        have hq7 := hpn _ _ hi7 c_39
        refine lv_aload_n hx hb dX10_treeParent_48 rfl (lv_at hl 1 rfl) ?_
        refine va_get (D := D) (own := RX10) (ref := "FuzzyFensModel") (ci := 9) (v := .ref mw) (C := RX10) (T := TX10) (N := 15) hx hb hts iX10_treeParent_X10 hown hK hP 0 rfl rfl 2 (by decide) (hts (.fieldLink RX10 7 "FuzzyFensModel" "words" "[J") (List.mem_of_getElem? (i := 3) rfl)) (fun _ h9 => h9) rfl dX10_treeParent_49 ?_
        refine lv_aload_n hx hb dX10_treeParent_52 rfl (lv_at hl 1 rfl) ?_
        refine va_get (D := D) (own := RX10) (ref := "FuzzyFensModel") (ci := 9) (v := .ref mp) (C := RX10) (T := TX10) (N := 15) hx hb hts iX10_treeParent_X10 hown hK hP 0 rfl rfl 4 (by decide) (hts (.fieldLink RX10 17 "FuzzyFensModel" "parents" "[I") (List.mem_of_getElem? (i := 1) rfl)) (fun _ h9 => h9) rfl dX10_treeParent_53 ?_
        refine lv_iload_n hx hb dX10_treeParent_56 rfl (lv_at hl 0 rfl) ?_
        refine va_iald (D := D) hx hb hK hR 1 1 rfl rfl (vp_in_nI (n := i7) (N := 40) (by omega) (by decide)) dX10_treeParent_57 ?_
        rw [nI_clamp (n := i7) (by omega)]
        refine q_cvi (show (fun k9 => pin (pa k9)) i7 = pin (pa i7) from rfl) ?_
        refine q_cvi (show (pin (pa i7)) = (nI q7) from (by rw [c_39]; rfl)) ?_
        refine va_lald (D := D) hx hb hK hR 0 0 rfl rfl (vp_in_nI (n := q7) (N := 40) (by omega) (by decide)) dX10_treeParent_58 ?_
        rw [nI_clamp (n := q7) (by omega)]
        refine q_cvl (show (fun k9 => lN (wd k9)) q7 = lN (wd q7) from rfl) ?_
        exact W.lret (v := lN (wd q7)) hx hb hr (fun t9 ht hW => ⟨⟨lN (wd q7), nI 0, rfl, ⟨(by rw [if_pos c_5]), (fun _ => by rw [c_29]; show _ = lnn wd (pa i7); rw [c_39]; rfl)⟩, by show va_P D vwCl _ t9.heap; rw [ht]; exact hP⟩, hS.F ht⟩) hS.2.2 dX10_treeParent_59
