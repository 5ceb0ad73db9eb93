set_option maxHeartbeats 4000000 in
set_option maxRecDepth 100000 in
/-- neighbourhood -/
theorem c_X10_neighbourhood (l : Launch) (D : va_G) (sz : Nat) (mo : Nat) (mw : Nat) (mct : Nat) (mp : Nat) (mnm : Nat) (m1 : Nat) (m2 : Nat) (mt : Nat) (mk : Nat) (mr : Nat) (ml : Nat) (mq : Nat) (k10 : ClassId) (th : Int32) (n : Nat) (om : Int32) (tm : Int32) (fl : Nat → Int64) (a : Nat) (x9 : Int32) (hnd : ([mo, ml] ++ []).Nodup) (ha : a < 2 ^ 64) : Met l yX10_neighbourhood wsX10_neighbourhood { frames := 4, cells := 0, slots := 0, locals := 107 } (va_Pc [.ref mo, .long (lN a), .int x9] (qW D sz ([]) [(mo, .inr (9, [.int th, .int (nI n), .ref mw, .ref mct, .ref mp, .ref mnm, .ref m1, .ref m2, .int om, .int tm, .ref mt, .ref mk, .ref mr, .ref ml, .ref mq])), (ml, .inl (k10, 64, .inr (.inl fl)))] [(k10, .long)])) (va_Qi (fun (rv : Int32) (uv : (Int32) × (Nat → Int64)) => uv.1 = nI (if gw a ∧ 0 ≤ x9 ∧ x9 ≤ nI 2 then 0 else 1) ∧ (gw a ∧ 0 ≤ x9 ∧ x9 ≤ nI 2 → rv = nI (List.length (nbl (kz x9) a)))) (fun (uv : (Int32) × (Nat → Int64)) (tv : State) => va_P D vwCl [(mo, .inr (9, [.int uv.1, .int (nI n), .ref mw, .ref mct, .ref mp, .ref mnm, .ref m1, .ref m2, .int om, .int tm, .ref mt, .ref mk, .ref mr, .ref ml, .ref mq])), (ml, .inl (k10, 64, .inr (.inl uv.2)))] tv.heap) (va_A [(mo, .inr (9, [.int th, .int (nI n), .ref mw, .ref mct, .ref mp, .ref mnm, .ref m1, .ref m2, .int om, .int tm, .ref mt, .ref mk, .ref mr, .ref ml, .ref mq])), (ml, .inl (k10, 64, .inr (.inl fl)))] sz)) 0 0 (va_A [(mo, .inr (9, [.int th, .int (nI n), .ref mw, .ref mct, .ref mp, .ref mnm, .ref m1, .ref m2, .int om, .int tm, .ref mt, .ref mk, .ref mr, .ref ml, .ref mq])), (ml, .inl (k10, 64, .inr (.inl fl)))] sz) := by
  refine Met.ofW (cc := cX10_neighbourhood) (maxL := 4) (ret := (some .int)) (by decide) rfl ?_
  intro pM eM s mi9 argsM belowM methM cM sM B hml hv
  obtain ⟨rfl, hsz, hR0, hP, hK, hNw⟩ := hv
  have hx := B.exec
  have hb := B.bytes
  have hr := B.returns
  have hts := atoms_spec (ws := wsX10_neighbourhood) B.pre
  have hown : s.vm.findClass RX10 = some mi9.cls := findClass_of_methodNamed B.named
  have hlocks := B.notSynchronized
  subst hsz
  have hna := q_na (RW := [(mo, .inr (9, [.int th, .int (nI n), .ref mw, .ref mct, .ref mp, .ref mnm, .ref m1, .ref m2, .int om, .int tm, .ref mt, .ref mk, .ref mr, .ref ml, .ref mq])), (ml, .inl (k10, 64, .inr (.inl fl)))]) (RO := []) hnd rfl rfl hR0
  have hD := q_D (RW := [(mo, .inr (9, [.int th, .int (nI n), .ref mw, .ref mct, .ref mp, .ref mnm, .ref m1, .ref m2, .int om, .int tm, .ref mt, .ref mk, .ref mr, .ref ml, .ref mq])), (ml, .inl (k10, 64, .inr (.inl fl)))]) (sz := s.heap.size) hnd rfl
  have hA : ∀ q : Nat, s.heap.size ≤ q → va_A [(mo, .inr (9, [.int th, .int (nI n), .ref mw, .ref mct, .ref mp, .ref mnm, .ref m1, .ref m2, .int om, .int tm, .ref mt, .ref mk, .ref mr, .ref ml, .ref mq])), (ml, .inl (k10, 64, .inr (.inl fl)))] s.heap.size q := fun q h => Or.inr h
  generalize hAe : va_A [(mo, .inr (9, [.int th, .int (nI n), .ref mw, .ref mct, .ref mp, .ref mnm, .ref m1, .ref m2, .int om, .int tm, .ref mt, .ref mk, .ref mr, .ref ml, .ref mq])), (ml, .inl (k10, 64, .inr (.inl fl)))] s.heap.size = A at hna hD hA ⊢
  have hS : va_S A s.heap s.heap [] := va_S.rf
  have hR := hR0
  have hP : va_P D vwCl [(mo, .inr (9, [.int th, .int (nI n), .ref mw, .ref mct, .ref mp, .ref mnm, .ref m1, .ref m2, .int om, .int tm, .ref mt, .ref mk, .ref mr, .ref ml, .ref mq])), (ml, .inl (k10, 64, .inr (.inl fl)))] s.heap := hP
  have hl := lv_entry ([.ref mo, .long (lN a), .int x9]) (n := 4) (Nat.le_of_ble_eq_true rfl)
  rw [lg_entry_eq]
  generalize (lg_sl ([.ref mo, .long (lN a), .int x9]) ++ List.replicate (4 - (lg_sl ([.ref mo, .long (lN a), .int x9])).length) Slot.unset).toArray = ls at hl ⊢
  have hl : lv_has ls 4 [(0, .ref mo), (1, .long (lN a)), (3, .int x9)] := hl
  refine lv_aload_n hx hb dX10_neighbourhood_0 rfl (lv_at hl 0 rfl) ?_
  refine lv_lload_n hx hb dX10_neighbourhood_1 rfl (lv_at hl 1 rfl) ?_
  refine lv_iload_n hx hb dX10_neighbourhood_2 rfl (lv_at hl 2 rfl) ?_
  refine lv_iconst (v := nI 2) hx hb dX10_neighbourhood_3 (by decide) ?_
  refine vp_callSi (W.runS (As := [.long (lN a), .int x9, .int (nI 2)]) (rest := [.ref mo]) ⟨hx, hb, hml, hown, hts⟩ (c_X10_isSearch (l := l) (D := D) (a := a) (x9 := x9) (mm := 2) (ha := ha)) (va_cwS 3 hts gX10_neighbourhood_X10_isSearch rfl rfl rfl (by decide +kernel) ⟨Nat.le_of_ble_eq_true rfl, Nat.le_of_ble_eq_true rfl⟩) ⟨qP_blind, (qP_of (q_Pof (fun _ h => absurd h List.not_mem_nil)) (hK.sub (tys' := []) [] rfl) hNw)⟩ rfl rfl hl.1 rfl (lv_room (Nat.le_of_ble_eq_true rfl)) dX10_neighbourhood_4 ⟨Nat.le_of_ble_eq_true rfl, Nat.le_of_ble_eq_true rfl⟩) (fun r_1 hr_1 => ?_)
  subst hr_1
  refine q_ifb_eq (tgt := 14) hx hb dX10_neighbourhood_7 (by decide) (fun c_7 => ?_) (fun c_7 => ?_)
  · skip
    refine lv_iconst (v := nI 1) hx hb dX10_neighbourhood_14 (by decide) ?_
    have hF := va_free (wc := [(mo, .inr (9, [.int th, .int (nI n), .ref mw, .ref mct, .ref mp, .ref mnm, .ref m1, .ref m2, .int om, .int tm, .ref mt, .ref mk, .ref mr, .ref ml, .ref mq]))]) hD hS hA [0] rfl
    refine va_calli (va_runV (As := [.int (nI 1)]) (rest := []) ⟨hx, hb, hml, hown, hts⟩ (c_X10_goesWell (l := l) (D := D) (mo := mo) (mw := mw) (mct := mct) (mp := mp) (mnm := mnm) (m1 := m1) (m2 := m2) (mt := mt) (mk := mk) (mr := mr) (ml := ml) (mq := mq) (th := th) (n := n) (om := om) (tm := tm) (x9 := 1) (sz := s.heap.size) (hnd := (q_nds hnd [0] rfl rfl)) (hx9 := by omega)) (cwV 1 hts gX10_neighbourhood_X10_goesWell rfl rfl rfl (by decide +kernel) ⟨Nat.le_of_ble_eq_true rfl, Nat.le_of_ble_eq_true rfl⟩) ⟨qW_blind, (va_recv hK hP (ci := 9) (q0 := 0) rfl rfl), (qW_of (q_Pof (fun _ h => absurd h List.not_mem_nil)) (hP.sub (ws' := [(mo, .inr (9, [.int th, .int (nI n), .ref mw, .ref mct, .ref mp, .ref mnm, .ref m1, .ref m2, .int om, .int tm, .ref mt, .ref mk, .ref mr, .ref ml, .ref mq]))]) [0] rfl) (hK.sub (tys' := []) [] rfl) hNw)⟩ rfl rfl hl.1 rfl (lv_room (Nat.le_of_ble_eq_true rfl)) dX10_neighbourhood_15 ⟨Nat.le_of_ble_eq_true rfl, Nat.le_of_ble_eq_true rfl⟩) hS (fun q _ h => hF q h) hF (fun r_2 u_6 t_5 H_3 locs_4 ht hvm hr_2 hB hz1 hk1 hS => ?_)
    replace hB : va_P D vwCl [(mo, .inr (9, [.int (nI 1), .int (nI n), .ref mw, .ref mct, .ref mp, .ref mnm, .ref m1, .ref m2, .int om, .int tm, .ref mt, .ref mk, .ref mr, .ref ml, .ref mq]))] H_3 := by rw [← ht]; exact hB
    obtain ⟨hP, hD⟩ := q_join (wc := [(mo, .inr (9, [.int th, .int (nI n), .ref mw, .ref mct, .ref mp, .ref mnm, .ref m1, .ref m2, .int om, .int tm, .ref mt, .ref mk, .ref mr, .ref ml, .ref mq]))]) (w1 := [(mo, .inr (9, [.int (nI 1), .int (nI n), .ref mw, .ref mct, .ref mp, .ref mnm, .ref m1, .ref m2, .int om, .int tm, .ref mt, .ref mk, .ref mr, .ref ml, .ref mq]))]) (ws' := [(mo, .inr (9, [.int (nI 1), .int (nI n), .ref mw, .ref mct, .ref mp, .ref mnm, .ref m1, .ref m2, .int om, .int tm, .ref mt, .ref mk, .ref mr, .ref ml, .ref mq])), (ml, .inl (k10, 64, .inr (.inl fl)))]) [0] hP hD rfl rfl hk1 hB rfl
    have hR := q_ro hR0 hna hS
    subst hr_2
    refine q_ifb_eq (tgt := 30) hx hb dX10_neighbourhood_18 (by decide) (fun _ => ?_) (fun c9 => absurd c9 (by decide))
    refine lv_iconst (v := nI 0) hx hb dX10_neighbourhood_30 (by decide) ?_
    exact W.iret (v := nI 0) hx hb hr (fun t9 ht hW => ⟨⟨nI 0, (nI 1, fl), rfl, ⟨(by rw [if_neg c_7]), (fun h9 => absurd h9 c_7)⟩, by show va_P D vwCl _ t9.heap; rw [ht]; exact hP⟩, hS.F ht⟩) hS.2.2 dX10_neighbourhood_31
  · skip
    refine lv_iconst (v := nI 0) hx hb dX10_neighbourhood_10 (by decide) ?_
    refine lv_goto (tgt := 15) hx hb dX10_neighbourhood_11 (by decide) ?_
    have hF := va_free (wc := [(mo, .inr (9, [.int th, .int (nI n), .ref mw, .ref mct, .ref mp, .ref mnm, .ref m1, .ref m2, .int om, .int tm, .ref mt, .ref mk, .ref mr, .ref ml, .ref mq]))]) hD hS hA [0] rfl
    refine va_calli (va_runV (As := [.int (nI 0)]) (rest := []) ⟨hx, hb, hml, hown, hts⟩ (c_X10_goesWell (l := l) (D := D) (mo := mo) (mw := mw) (mct := mct) (mp := mp) (mnm := mnm) (m1 := m1) (m2 := m2) (mt := mt) (mk := mk) (mr := mr) (ml := ml) (mq := mq) (th := th) (n := n) (om := om) (tm := tm) (x9 := 0) (sz := s.heap.size) (hnd := (q_nds hnd [0] rfl rfl)) (hx9 := by omega)) (cwV 1 hts gX10_neighbourhood_X10_goesWell rfl rfl rfl (by decide +kernel) ⟨Nat.le_of_ble_eq_true rfl, Nat.le_of_ble_eq_true rfl⟩) ⟨qW_blind, (va_recv hK hP (ci := 9) (q0 := 0) rfl rfl), (qW_of (q_Pof (fun _ h => absurd h List.not_mem_nil)) (hP.sub (ws' := [(mo, .inr (9, [.int th, .int (nI n), .ref mw, .ref mct, .ref mp, .ref mnm, .ref m1, .ref m2, .int om, .int tm, .ref mt, .ref mk, .ref mr, .ref ml, .ref mq]))]) [0] rfl) (hK.sub (tys' := []) [] rfl) hNw)⟩ rfl rfl hl.1 rfl (lv_room (Nat.le_of_ble_eq_true rfl)) dX10_neighbourhood_15 ⟨Nat.le_of_ble_eq_true rfl, Nat.le_of_ble_eq_true rfl⟩) hS (fun q _ h => hF q h) hF (fun r_7 u_11 t_10 H_8 locs_9 ht hvm hr_7 hB hz1 hk1 hS => ?_)
    replace hB : va_P D vwCl [(mo, .inr (9, [.int (nI 0), .int (nI n), .ref mw, .ref mct, .ref mp, .ref mnm, .ref m1, .ref m2, .int om, .int tm, .ref mt, .ref mk, .ref mr, .ref ml, .ref mq]))] H_8 := by rw [← ht]; exact hB
    obtain ⟨hP, hD⟩ := q_join (wc := [(mo, .inr (9, [.int th, .int (nI n), .ref mw, .ref mct, .ref mp, .ref mnm, .ref m1, .ref m2, .int om, .int tm, .ref mt, .ref mk, .ref mr, .ref ml, .ref mq]))]) (w1 := [(mo, .inr (9, [.int (nI 0), .int (nI n), .ref mw, .ref mct, .ref mp, .ref mnm, .ref m1, .ref m2, .int om, .int tm, .ref mt, .ref mk, .ref mr, .ref ml, .ref mq]))]) (ws' := [(mo, .inr (9, [.int (nI 0), .int (nI n), .ref mw, .ref mct, .ref mp, .ref mnm, .ref m1, .ref m2, .int om, .int tm, .ref mt, .ref mk, .ref mr, .ref ml, .ref mq])), (ml, .inl (k10, 64, .inr (.inl fl)))]) [0] hP hD rfl rfl hk1 hB rfl
    have hR := q_ro hR0 hna hS
    subst hr_7
    refine q_ifb_eq (tgt := 30) hx hb dX10_neighbourhood_18 (by decide) (fun c9 => absurd (by decide) c9) (fun _ => ?_)
    have hlx := kz_le (by decide) c_7.2.1 c_7.2.2
    have hl : lv_has ls 4 [(0, .ref mo), (1, .long (lN a)), (3, .int (nI (kz x9)))] := (congrArg (fun v9 => lv_has ls 4 [(0, .ref mo), (1, .long (lN a)), (3, .int v9)]) (kz_of c_7.2.1)).mp hl
    refine lv_aload_n hx hb dX10_neighbourhood_21 rfl (lv_at hl 0 rfl) ?_
    refine lv_lload_n hx hb dX10_neighbourhood_22 rfl (lv_at hl 1 rfl) ?_
    refine lv_iload_n hx hb dX10_neighbourhood_23 rfl (lv_at hl 2 rfl) ?_
    have hF := va_free (wc := [(ml, .inl (k10, 64, .inr (.inl fl)))]) hD hS hA [1] rfl
    refine va_calli (va_runV (As := [.long (lN a), .int (nI (kz x9))]) (rest := []) ⟨hx, hb, hml, hown, hts⟩ (c_X10_layLeft (l := l) (D := D) (mo := mo) (mw := mw) (mct := mct) (mp := mp) (mnm := mnm) (m1 := m1) (m2 := m2) (mt := mt) (mk := mk) (mr := mr) (ml := ml) (mq := mq) (k10 := k10) (th := nI 0) (n := n) (om := om) (tm := tm) (fl := fl) (a := a) (k := kz x9) (sz := H_8.size) (hnd := (q_nds hnd [1, 0] rfl rfl)) (hga := c_7.1) (hk3 := by omega)) (cwV 2 hts gX10_neighbourhood_X10_layLeft rfl rfl rfl (by decide +kernel) ⟨Nat.le_of_ble_eq_true rfl, Nat.le_of_ble_eq_true rfl⟩) ⟨qW_blind, (va_recv hK hP (ci := 9) (q0 := 0) rfl rfl), (qW_of (hP.sub (ws' := [(mo, .inr (9, [.int (nI 0), .int (nI n), .ref mw, .ref mct, .ref mp, .ref mnm, .ref m1, .ref m2, .int om, .int tm, .ref mt, .ref mk, .ref mr, .ref ml, .ref mq]))]) [0] rfl) (hP.sub (ws' := [(ml, .inl (k10, 64, .inr (.inl fl)))]) [1] rfl) (hK.sub (tys' := [(k10, .long)]) [0] rfl) hNw)⟩ rfl rfl hl.1 rfl (lv_room (Nat.le_of_ble_eq_true rfl)) dX10_neighbourhood_24 ⟨Nat.le_of_ble_eq_true rfl, Nat.le_of_ble_eq_true rfl⟩) hS (fun q _ h => hF q h) hF (fun r_12 u_16 t_15 H_13 locs_14 ht hvm hr_12 hB hz1 hk1 hS => ?_)
    obtain ⟨g5_17, rfl⟩ : ∃ z, z = u_16 := ⟨_, rfl⟩
    replace hB : va_P D vwCl [(ml, .inl (k10, 64, .inr (.inl g5_17)))] H_13 := by rw [← ht]; exact hB
    obtain ⟨hP, hD⟩ := q_join (wc := [(ml, .inl (k10, 64, .inr (.inl fl)))]) (w1 := [(ml, .inl (k10, 64, .inr (.inl g5_17)))]) (ws' := [(mo, .inr (9, [.int (nI 0), .int (nI n), .ref mw, .ref mct, .ref mp, .ref mnm, .ref m1, .ref m2, .int om, .int tm, .ref mt, .ref mk, .ref mr, .ref ml, .ref mq])), (ml, .inl (k10, 64, .inr (.inl g5_17)))]) [1] hP hD rfl rfl hk1 hB rfl
    have hR := q_ro hR0 hna hS
    obtain ⟨rfl, f_r_12⟩ := hr_12
    refine lv_goto (tgt := 31) hx hb dX10_neighbourhood_27 (by decide) ?_
    exact W.iret (v := nI (List.length (nbl (kz x9) a))) hx hb hr (fun t9 ht hW => ⟨⟨nI (List.length (nbl (kz x9) a)), (nI 0, g5_17), rfl, ⟨(by rw [if_pos c_7]), (fun _ => rfl)⟩, by show va_P D vwCl _ t9.heap; rw [ht]; exact hP⟩, hS.F ht⟩) hS.2.2 dX10_neighbourhood_31
