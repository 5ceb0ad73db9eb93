set_option maxHeartbeats 4000000 in
set_option maxRecDepth 100000 in
/-- Keyboard.at -/
theorem c_X3_at (l : Launch) (D : va_G) (t : Nat) (F : Nat → Int32) (k : Nat) (hk1 : 1 ≤ k) (hk2 : k ≤ 26) : Met l yX3_at wsX3_at { frames := 0, cells := 0, slots := 0, locals := 0 } (va_Pc [.ref t, .int (nI k)] (qPt D ([]) [] t 26 F)) (vp_Si (fun rv : Int32 => rv = F (k - 1))) 0 0 (fun _ => False) := by
  refine Met.ofW (cc := cX3_at) (maxL := 2) (ret := (some .int)) (by decide) rfl ?_
  intro pM eM s mi9 argsM belowM methM cM sM B hml hv
  obtain ⟨rfl, hR, hK, hNw, hT⟩ := hv
  have hx := B.exec
  have hb := B.bytes
  have hr := B.returns
  have hts := atoms_spec (ws := wsX3_at) B.pre
  have hown : s.vm.findClass RX3 = some mi9.cls := findClass_of_methodNamed B.named
  have hlocks := B.notSynchronized
  have hS : va_S (fun _ => False) s.heap s.heap [] := va_S.rf
  have hR : va_P D vwCl ([]) s.heap := hR
  have hl := lv_entry ([.ref t, .int (nI k)]) (n := 2) (Nat.le_of_ble_eq_true rfl)
  rw [lg_entry_eq]
  generalize (lg_sl ([.ref t, .int (nI k)]) ++ List.replicate (2 - (lg_sl ([.ref t, .int (nI k)])).length) Slot.unset).toArray = ls at hl ⊢
  have hl : lv_has ls 2 [(0, .ref t), (1, .int (nI k))] := hl
  refine lv_iload_n hx hb dX3_at_0 rfl (lv_at hl 1 rfl) ?_
  refine lv_iconst (v := nI 1) hx hb dX3_at_1 (by decide) ?_
  refine q_icmp_lt (a := k) (b := 1) (tgt := 19) hx hb dX3_at_2 (by decide) (by omega) (by omega) (fun c_2 => ?_) (fun c_2 => ?_)
  · skip
    refine lv_iconst (v := (-1)) hx hb dX3_at_19 (by decide) ?_
    exact W.iret (v := (-1)) hx hb hr (fun t9 ht _ => ⟨(-1), rfl, (by omega), ht⟩) (fun _ h => absurd h List.not_mem_nil) dX3_at_20
  · skip
    refine lv_iload_n hx hb dX3_at_5 rfl (lv_at hl 1 rfl) ?_
    refine lv_aload_n hx hb dX3_at_6 rfl (lv_at hl 0 rfl) ?_
    refine va_tlen (v := nI 26) hx hb hT hS rfl dX3_at_7 ?_
    refine q_icmp_gt (a := k) (b := 26) (tgt := 19) hx hb dX3_at_8 (by decide) (by omega) (by omega) (fun c_8 => ?_) (fun c_8 => ?_)
    · skip
      refine lv_iconst (v := (-1)) hx hb dX3_at_19 (by decide) ?_
      exact W.iret (v := (-1)) hx hb hr (fun t9 ht _ => ⟨(-1), rfl, (by omega), ht⟩) (fun _ h => absurd h List.not_mem_nil) dX3_at_20
    · skip
      refine lv_aload_n hx hb dX3_at_11 rfl (lv_at hl 0 rfl) ?_
      refine lv_iload_n hx hb dX3_at_12 rfl (lv_at hl 1 rfl) ?_
      refine lv_iconst (v := nI 1) hx hb dX3_at_13 (by decide) ?_
      refine q_isub (d := k - 1) hx hb dX3_at_14 (by omega) ?_
      refine va_ti (v := .int (F (k - 1))) hx hb hT hS (vp_in_nI (n := k - 1) (N := 26) (by omega) (by decide)) (by rw [nI_clamp (n := k - 1) (by omega)]) dX3_at_15 ?_
      refine lv_goto (tgt := 20) hx hb dX3_at_16 (by decide) ?_
      exact W.iret (v := F (k - 1)) hx hb hr (fun t9 ht _ => ⟨F (k - 1), rfl, rfl, ht⟩) (fun _ h => absurd h List.not_mem_nil) dX3_at_20

set_option maxHeartbeats 4000000 in
set_option maxRecDepth 100000 in
/-- Keyboard.areBeside -/
theorem c_X3_areBeside (l : Launch) (D : va_G) (x9 : Nat) (y9 : Nat) (hx1 : 1 ≤ x9) (hx2 : x9 ≤ 26) (hy1 : 1 ≤ y9) (hy2 : y9 ≤ 26) : Met l yX3_areBeside wsX3_areBeside { frames := 1, cells := 0, slots := 0, locals := 21 } (va_Pc [.int (nI x9), .int (nI y9)] (qPz D ([]) [])) (vp_Si (fun rv : Int32 => rv = (if nbr x9 y9 then 1 else 0))) 0 0 (fun _ => False) := by
  refine Met.ofW (cc := cX3_areBeside) (maxL := 4) (ret := (some .boolean)) (by decide) rfl ?_
  intro pM eM s mi9 argsM belowM methM cM sM B hml hv
  obtain ⟨rfl, hR, hK, hNw, hZ⟩ := hv
  have hx := B.exec
  have hb := B.bytes
  have hr := B.returns
  have hts := atoms_spec (ws := wsX3_areBeside) B.pre
  have hown : s.vm.findClass RX3 = some mi9.cls := findClass_of_methodNamed B.named
  have hlocks := B.notSynchronized
  have hS : va_S (fun _ => False) s.heap s.heap [] := va_S.rf
  have hR : va_P D vwCl ([]) s.heap := hR
  obtain ⟨⟨tR, hZR, hTR⟩, ⟨tP, hZP, hTP⟩, hUS, hSS⟩ := id hZ
  have hl := lv_entry ([.int (nI x9), .int (nI y9)]) (n := 4) (Nat.le_of_ble_eq_true rfl)
  rw [lg_entry_eq]
  generalize (lg_sl ([.int (nI x9), .int (nI y9)]) ++ List.replicate (4 - (lg_sl ([.int (nI x9), .int (nI y9)])).length) Slot.unset).toArray = ls at hl ⊢
  have hl : lv_has ls 4 [(0, .int (nI x9)), (1, .int (nI y9))] := hl
  refine va_gets (C := "FuzzyFens$Keyboard") (ref := "FuzzyFens$Keyboard") hx hb hZR hS hown (hts (.fieldLink RX3 9 "FuzzyFens$Keyboard" "ROWS" "[I") (List.mem_of_getElem? (i := 1) rfl)) (fun _ h9 => h9) dX3_areBeside_0 ?_
  refine lv_iload_n hx hb dX3_areBeside_3 rfl (lv_at hl 1 rfl) ?_
  refine vp_callSi (W.runS (As := [.ref tR, .int (nI y9)]) (rest := []) ⟨hx, hb, hml, hown, hts⟩ (c_X3_at (l := l) (D := D) (t := tR) (F := q_rows) (k := y9) (hk1 := hy1) (hk2 := hy2)) (va_cwS 2 hts gX3_areBeside_X3_at rfl rfl rfl (by decide +kernel) ⟨Nat.le_of_ble_eq_true rfl, Nat.le_of_ble_eq_true rfl⟩) ⟨qPt_blind, (qPt_of (q_Pof (fun _ h => absurd h List.not_mem_nil)) (hK.sub (tys' := []) [] rfl) hNw ((va_T.narrow (va_T.kept hTR hS.2.1) (fun _ h => h))))⟩ rfl rfl hl.1 rfl (lv_room (Nat.le_of_ble_eq_true rfl)) dX3_areBeside_4 ⟨Nat.le_of_ble_eq_true rfl, Nat.le_of_ble_eq_true rfl⟩) (fun r_1 hr_1 => ?_)
  subst hr_1
  refine q_cvi (show (q_rows (y9 - 1)) = (nI (kro.getD y9 9)) from (by show nI (kro.getD (y9 - 1 + 1) 9) = _; rw [Nat.sub_add_cancel (by omega)])) ?_
  refine va_gets (C := "FuzzyFens$Keyboard") (ref := "FuzzyFens$Keyboard") hx hb hZR hS hown (hts (.fieldLink RX3 9 "FuzzyFens$Keyboard" "ROWS" "[I") (List.mem_of_getElem? (i := 1) rfl)) (fun _ h9 => h9) dX3_areBeside_7 ?_
  refine lv_iload_n hx hb dX3_areBeside_10 rfl (lv_at hl 0 rfl) ?_
  refine vp_callSi (W.runS (As := [.ref tR, .int (nI x9)]) (rest := [.int (nI (kro.getD y9 9))]) ⟨hx, hb, hml, hown, hts⟩ (c_X3_at (l := l) (D := D) (t := tR) (F := q_rows) (k := x9) (hk1 := hx1) (hk2 := hx2)) (va_cwS 2 hts gX3_areBeside_X3_at rfl rfl rfl (by decide +kernel) ⟨Nat.le_of_ble_eq_true rfl, Nat.le_of_ble_eq_true rfl⟩) ⟨qPt_blind, (qPt_of (q_Pof (fun _ h => absurd h List.not_mem_nil)) (hK.sub (tys' := []) [] rfl) hNw ((va_T.narrow (va_T.kept hTR hS.2.1) (fun _ h => h))))⟩ rfl rfl hl.1 rfl (lv_room (Nat.le_of_ble_eq_true rfl)) dX3_areBeside_11 ⟨Nat.le_of_ble_eq_true rfl, Nat.le_of_ble_eq_true rfl⟩) (fun r_2 hr_2 => ?_)
  subst hr_2
  refine q_cvi (show (q_rows (x9 - 1)) = (nI (kro.getD x9 9)) from (by show nI (kro.getD (x9 - 1 + 1) 9) = _; rw [Nat.sub_add_cancel (by omega)])) ?_
  refine lv_isub hx hb dX3_areBeside_14 ?_
  refine lv_istore_n (lv' := [(2, .int ((nI (kro.getD y9 9)) - (nI (kro.getD x9 9)))), (0, .int (nI x9)), (1, .int (nI y9))]) hx hb dX3_areBeside_15 rfl hl (by decide) rfl (fun ls hl => ?_)
  refine va_gets (C := "FuzzyFens$Keyboard") (ref := "FuzzyFens$Keyboard") hx hb hZP hS hown (hts (.fieldLink RX3 19 "FuzzyFens$Keyboard" "PLACES" "[I") (List.mem_of_getElem? (i := 2) rfl)) (fun _ h9 => h9) dX3_areBeside_16 ?_
  refine lv_iload_n hx hb dX3_areBeside_19 rfl (lv_at hl 2 rfl) ?_
  refine vp_callSi (W.runS (As := [.ref tP, .int (nI y9)]) (rest := []) ⟨hx, hb, hml, hown, hts⟩ (c_X3_at (l := l) (D := D) (t := tP) (F := q_plcs) (k := y9) (hk1 := hy1) (hk2 := hy2)) (va_cwS 2 hts gX3_areBeside_X3_at rfl rfl rfl (by decide +kernel) ⟨Nat.le_of_ble_eq_true rfl, Nat.le_of_ble_eq_true rfl⟩) ⟨qPt_blind, (qPt_of (q_Pof (fun _ h => absurd h List.not_mem_nil)) (hK.sub (tys' := []) [] rfl) hNw ((va_T.narrow (va_T.kept hTP hS.2.1) (fun _ h => h))))⟩ rfl rfl hl.1 rfl (lv_room (Nat.le_of_ble_eq_true rfl)) dX3_areBeside_20 ⟨Nat.le_of_ble_eq_true rfl, Nat.le_of_ble_eq_true rfl⟩) (fun r_3 hr_3 => ?_)
  subst hr_3
  refine q_cvi (show (q_plcs (y9 - 1)) = (nI (kpl.getD y9 9)) from (by show nI (kpl.getD (y9 - 1 + 1) 9) = _; rw [Nat.sub_add_cancel (by omega)])) ?_
  refine va_gets (C := "FuzzyFens$Keyboard") (ref := "FuzzyFens$Keyboard") hx hb hZP hS hown (hts (.fieldLink RX3 19 "FuzzyFens$Keyboard" "PLACES" "[I") (List.mem_of_getElem? (i := 2) rfl)) (fun _ h9 => h9) dX3_areBeside_23 ?_
  refine lv_iload_n hx hb dX3_areBeside_26 rfl (lv_at hl 1 rfl) ?_
  refine vp_callSi (W.runS (As := [.ref tP, .int (nI x9)]) (rest := [.int (nI (kpl.getD y9 9))]) ⟨hx, hb, hml, hown, hts⟩ (c_X3_at (l := l) (D := D) (t := tP) (F := q_plcs) (k := x9) (hk1 := hx1) (hk2 := hx2)) (va_cwS 2 hts gX3_areBeside_X3_at rfl rfl rfl (by decide +kernel) ⟨Nat.le_of_ble_eq_true rfl, Nat.le_of_ble_eq_true rfl⟩) ⟨qPt_blind, (qPt_of (q_Pof (fun _ h => absurd h List.not_mem_nil)) (hK.sub (tys' := []) [] rfl) hNw ((va_T.narrow (va_T.kept hTP hS.2.1) (fun _ h => h))))⟩ rfl rfl hl.1 rfl (lv_room (Nat.le_of_ble_eq_true rfl)) dX3_areBeside_27 ⟨Nat.le_of_ble_eq_true rfl, Nat.le_of_ble_eq_true rfl⟩) (fun r_4 hr_4 => ?_)
  subst hr_4
  refine q_cvi (show (q_plcs (x9 - 1)) = (nI (kpl.getD x9 9)) from (by show nI (kpl.getD (x9 - 1 + 1) 9) = _; rw [Nat.sub_add_cancel (by omega)])) ?_
  refine lv_isub hx hb dX3_areBeside_30 ?_
  refine lv_istore_n (lv' := [(3, .int ((nI (kpl.getD y9 9)) - (nI (kpl.getD x9 9)))), (2, .int ((nI (kro.getD y9 9)) - (nI (kro.getD x9 9)))), (0, .int (nI x9)), (1, .int (nI y9))]) hx hb dX3_areBeside_31 rfl hl (by decide) rfl (fun ls hl => ?_)
  refine lv_iload_n hx hb dX3_areBeside_32 rfl (lv_at hl 1 rfl) ?_
  refine lv_if_ne (tgt := 52) hx hb dX3_areBeside_33 (by decide) (fun c_33 => ?_) (fun c_33 => ?_)
  · skip
    rw [q_d0 (kro_lt _) (kro_lt _)] at c_33
    refine lv_iload_n hx hb dX3_areBeside_52 rfl (lv_at hl 1 rfl) ?_
    refine lv_iconst (v := nI 1) hx hb dX3_areBeside_53 (by decide) ?_
    refine lv_icmp_ne (tgt := 72) hx hb dX3_areBeside_54 (by decide) (fun c_54 => ?_) (fun c_54 => ?_)
    · skip
      rw [q_d1 (kro_lt _) (kro_lt _)] at c_54
      refine lv_iload_n hx hb dX3_areBeside_72 rfl (lv_at hl 1 rfl) ?_
      refine lv_iconst (v := (-1)) hx hb dX3_areBeside_73 (by decide) ?_
      refine lv_icmp_ne (tgt := 90) hx hb dX3_areBeside_74 (by decide) (fun c_74 => ?_) (fun c_74 => ?_)
      · skip
        rw [q_dm (kro_lt _) (kro_lt _)] at c_74
        refine lv_iconst (v := nI 0) hx hb dX3_areBeside_90 (by decide) ?_
        exact W.zret (v := nI 0) hx hb hr (by decide) (fun t9 ht _ => ⟨nI 0, rfl, (if_neg (by omega)).symm, ht⟩) (fun _ h => absurd h List.not_mem_nil) dX3_areBeside_91
      · skip
        rw [q_dm (kro_lt _) (kro_lt _)] at c_74
        refine lv_iload_n hx hb dX3_areBeside_77 rfl (lv_at hl 0 rfl) ?_
        refine lv_if_eq (tgt := 86) hx hb dX3_areBeside_78 (by decide) (fun c_78 => ?_) (fun c_78 => ?_)
        · skip
          rw [q_d0 (kpl_lt _) (kpl_lt _)] at c_78
          refine lv_iconst (v := nI 1) hx hb dX3_areBeside_86 (by decide) ?_
          refine lv_goto (tgt := 91) hx hb dX3_areBeside_87 (by decide) ?_
          exact W.zret (v := nI 1) hx hb hr (by decide) (fun t9 ht _ => ⟨nI 1, rfl, (if_pos (by omega)).symm, ht⟩) (fun _ h => absurd h List.not_mem_nil) dX3_areBeside_91
        · skip
          rw [q_d0 (kpl_lt _) (kpl_lt _)] at c_78
          refine lv_iload_n hx hb dX3_areBeside_81 rfl (lv_at hl 0 rfl) ?_
          refine lv_iconst (v := nI 1) hx hb dX3_areBeside_82 (by decide) ?_
          refine lv_icmp_ne (tgt := 90) hx hb dX3_areBeside_83 (by decide) (fun c_83 => ?_) (fun c_83 => ?_)
          · skip
            rw [q_d1 (kpl_lt _) (kpl_lt _)] at c_83
            refine lv_iconst (v := nI 0) hx hb dX3_areBeside_90 (by decide) ?_
            exact W.zret (v := nI 0) hx hb hr (by decide) (fun t9 ht _ => ⟨nI 0, rfl, (if_neg (by omega)).symm, ht⟩) (fun _ h => absurd h List.not_mem_nil) dX3_areBeside_91
          · skip
            rw [q_d1 (kpl_lt _) (kpl_lt _)] at c_83
            refine lv_iconst (v := nI 1) hx hb dX3_areBeside_86 (by decide) ?_
            refine lv_goto (tgt := 91) hx hb dX3_areBeside_87 (by decide) ?_
            exact W.zret (v := nI 1) hx hb hr (by decide) (fun t9 ht _ => ⟨nI 1, rfl, (if_pos (by omega)).symm, ht⟩) (fun _ h => absurd h List.not_mem_nil) dX3_areBeside_91
    · skip
      rw [q_d1 (kro_lt _) (kro_lt _)] at c_54
      refine lv_iload_n hx hb dX3_areBeside_57 rfl (lv_at hl 0 rfl) ?_
      refine lv_if_eq (tgt := 66) hx hb dX3_areBeside_58 (by decide) (fun c_58 => ?_) (fun c_58 => ?_)
      · skip
        rw [q_d0 (kpl_lt _) (kpl_lt _)] at c_58
        refine lv_iconst (v := nI 1) hx hb dX3_areBeside_66 (by decide) ?_
        refine lv_goto (tgt := 71) hx hb dX3_areBeside_67 (by decide) ?_
        exact W.zret (v := nI 1) hx hb hr (by decide) (fun t9 ht _ => ⟨nI 1, rfl, (if_pos (by omega)).symm, ht⟩) (fun _ h => absurd h List.not_mem_nil) dX3_areBeside_71
      · skip
        rw [q_d0 (kpl_lt _) (kpl_lt _)] at c_58
        refine lv_iload_n hx hb dX3_areBeside_61 rfl (lv_at hl 0 rfl) ?_
        refine lv_iconst (v := (-1)) hx hb dX3_areBeside_62 (by decide) ?_
        refine lv_icmp_ne (tgt := 70) hx hb dX3_areBeside_63 (by decide) (fun c_63 => ?_) (fun c_63 => ?_)
        · skip
          rw [q_dm (kpl_lt _) (kpl_lt _)] at c_63
          refine lv_iconst (v := nI 0) hx hb dX3_areBeside_70 (by decide) ?_
          exact W.zret (v := nI 0) hx hb hr (by decide) (fun t9 ht _ => ⟨nI 0, rfl, (if_neg (by omega)).symm, ht⟩) (fun _ h => absurd h List.not_mem_nil) dX3_areBeside_71
        · skip
          rw [q_dm (kpl_lt _) (kpl_lt _)] at c_63
          refine lv_iconst (v := nI 1) hx hb dX3_areBeside_66 (by decide) ?_
          refine lv_goto (tgt := 71) hx hb dX3_areBeside_67 (by decide) ?_
          exact W.zret (v := nI 1) hx hb hr (by decide) (fun t9 ht _ => ⟨nI 1, rfl, (if_pos (by omega)).symm, ht⟩) (fun _ h => absurd h List.not_mem_nil) dX3_areBeside_71
  · skip
    rw [q_d0 (kro_lt _) (kro_lt _)] at c_33
    refine lv_iload_n hx hb dX3_areBeside_36 rfl (lv_at hl 0 rfl) ?_
    refine lv_iconst (v := nI 1) hx hb dX3_areBeside_37 (by decide) ?_
    refine lv_icmp_eq (tgt := 46) hx hb dX3_areBeside_38 (by decide) (fun c_38 => ?_) (fun c_38 => ?_)
    · skip
      rw [q_d1 (kpl_lt _) (kpl_lt _)] at c_38
      refine lv_iconst (v := nI 1) hx hb dX3_areBeside_46 (by decide) ?_
      refine lv_goto (tgt := 51) hx hb dX3_areBeside_47 (by decide) ?_
      exact W.zret (v := nI 1) hx hb hr (by decide) (fun t9 ht _ => ⟨nI 1, rfl, (if_pos (by omega)).symm, ht⟩) (fun _ h => absurd h List.not_mem_nil) dX3_areBeside_51
    · skip
      rw [q_d1 (kpl_lt _) (kpl_lt _)] at c_38
      refine lv_iload_n hx hb dX3_areBeside_41 rfl (lv_at hl 0 rfl) ?_
      refine lv_iconst (v := (-1)) hx hb dX3_areBeside_42 (by decide) ?_
      refine lv_icmp_ne (tgt := 50) hx hb dX3_areBeside_43 (by decide) (fun c_43 => ?_) (fun c_43 => ?_)
      · skip
        rw [q_dm (kpl_lt _) (kpl_lt _)] at c_43
        refine lv_iconst (v := nI 0) hx hb dX3_areBeside_50 (by decide) ?_
        exact W.zret (v := nI 0) hx hb hr (by decide) (fun t9 ht _ => ⟨nI 0, rfl, (if_neg (by omega)).symm, ht⟩) (fun _ h => absurd h List.not_mem_nil) dX3_areBeside_51
      · skip
        rw [q_dm (kpl_lt _) (kpl_lt _)] at c_43
        refine lv_iconst (v := nI 1) hx hb dX3_areBeside_46 (by decide) ?_
        refine lv_goto (tgt := 51) hx hb dX3_areBeside_47 (by decide) ?_
        exact W.zret (v := nI 1) hx hb hr (by decide) (fun t9 ht _ => ⟨nI 1, rfl, (if_pos (by omega)).symm, ht⟩) (fun _ h => absurd h List.not_mem_nil) dX3_areBeside_51

set_option maxHeartbeats 4000000 in
set_option maxRecDepth 100000 in
theorem c_X1_deletionPrice_p (l : Launch) (D : va_G) (w : Nat) (a : Nat) (i : Nat) (hg : gw a) (hi : 1 ≤ i) (hi2 : i < wl a) : Met l yX1_deletionPrice wsX1_deletionPrice { frames := 1, cells := 0, slots := 0, locals := 22 } (va_Pc [.ref w, .int (nI i)] (qP D ([(w, .inr (7, [.long (lN a), .int (nI (wl a)), .long (lN (al a))]))]) [])) (vp_Si (fun rv : Int32 => rv = nI (delp (ltz a) i))) 0 0 (fun _ => False) := by
  refine Met.ofW (cc := cX1_deletionPrice) (maxL := 2) (ret := (some .int)) (by decide) rfl ?_
  intro pM eM s mi9 argsM belowM methM cM sM B hml hv
  obtain ⟨rfl, hR, hK, hNw⟩ := hv
  have hx := B.exec
  have hb := B.bytes
  have hr := B.returns
  have hts := atoms_spec (ws := wsX1_deletionPrice) B.pre
  have hown : s.vm.findClass RX1 = some mi9.cls := findClass_of_methodNamed B.named
  have hlocks := B.notSynchronized
  have hS : va_S (fun _ => False) s.heap s.heap [] := va_S.rf
  have hR : va_P D vwCl ([(w, .inr (7, [.long (lN a), .int (nI (wl a)), .long (lN (al a))]))]) s.heap := hR
  have hl := lv_entry ([.ref w, .int (nI i)]) (n := 2) (Nat.le_of_ble_eq_true rfl)
  rw [lg_entry_eq]
  generalize (lg_sl ([.ref w, .int (nI i)]) ++ List.replicate (2 - (lg_sl ([.ref w, .int (nI i)])).length) Slot.unset).toArray = ls at hl ⊢
  have hl : lv_has ls 2 [(0, .ref w), (1, .int (nI i))] := hl
  have hwa := gw_wl hg
  refine lv_aload_n hx hb dX1_deletionPrice_0 rfl (lv_at hl 0 rfl) ?_
  refine lv_iload_n hx hb dX1_deletionPrice_1 rfl (lv_at hl 1 rfl) ?_
  refine vp_callSi (W.runV (As := [.int (nI i)]) (rest := []) ⟨hx, hb, hml, hown, hts⟩ (c_X8_letterAt (l := l) (D := D) (w := w) (n := a) (p := i) (hg := hg) (hp := by omega)) (cwV 1 hts gX1_deletionPrice_X8_letterAt rfl rfl rfl (by decide +kernel) ⟨Nat.le_of_ble_eq_true rfl, Nat.le_of_ble_eq_true rfl⟩) ⟨qP_blind, (va_recv hK hR (ci := 7) (q0 := 0) rfl rfl), (qP_of (hR.sub (ws' := [(w, .inr (7, [.long (lN a), .int (nI (wl a)), .long (lN (al a))]))]) [0] rfl) (hK.sub (tys' := []) [] rfl) hNw)⟩ rfl rfl hl.1 rfl (lv_room (Nat.le_of_ble_eq_true rfl)) dX1_deletionPrice_2 ⟨Nat.le_of_ble_eq_true rfl, Nat.le_of_ble_eq_true rfl⟩) (fun r_1 hr_1 => ?_)
  subst hr_1
  refine lv_aload_n hx hb dX1_deletionPrice_5 rfl (lv_at hl 0 rfl) ?_
  refine lv_iload_n hx hb dX1_deletionPrice_6 rfl (lv_at hl 1 rfl) ?_
  refine lv_iconst (v := nI 1) hx hb dX1_deletionPrice_7 (by decide) ?_
  refine q_isub (d := i - 1) hx hb dX1_deletionPrice_8 (by omega) ?_
  refine vp_callSi (W.runV (As := [.int (nI (i - 1))]) (rest := [.int (nI (ltz a i))]) ⟨hx, hb, hml, hown, hts⟩ (c_X8_letterAt (l := l) (D := D) (w := w) (n := a) (p := i - 1) (hg := hg) (hp := by omega)) (cwV 1 hts gX1_deletionPrice_X8_letterAt rfl rfl rfl (by decide +kernel) ⟨Nat.le_of_ble_eq_true rfl, Nat.le_of_ble_eq_true rfl⟩) ⟨qP_blind, (va_recv hK hR (ci := 7) (q0 := 0) rfl rfl), (qP_of (hR.sub (ws' := [(w, .inr (7, [.long (lN a), .int (nI (wl a)), .long (lN (al a))]))]) [0] rfl) (hK.sub (tys' := []) [] rfl) hNw)⟩ rfl rfl hl.1 rfl (lv_room (Nat.le_of_ble_eq_true rfl)) dX1_deletionPrice_9 ⟨Nat.le_of_ble_eq_true rfl, Nat.le_of_ble_eq_true rfl⟩) (fun r_2 hr_2 => ?_)
  subst hr_2
  refine q_icmp_ne (a := ltz a i) (b := ltz a (i - 1)) (tgt := 19) hx hb dX1_deletionPrice_12 (by decide) (by have := ltz_32 a i; omega) (by have := ltz_32 a (i - 1); omega) (fun c_12 => ?_) (fun c_12 => ?_)
  · skip
    refine lv_iconst (v := nI 2) hx hb dX1_deletionPrice_19 (by decide) ?_
    exact W.iret (v := nI 2) hx hb hr (fun t9 ht _ => ⟨nI 2, rfl, (congrArg nI (if_neg (fun h => c_12 h.2)).symm), ht⟩) (fun _ h => absurd h List.not_mem_nil) dX1_deletionPrice_20
  · skip
    refine lv_iconst (v := nI 1) hx hb dX1_deletionPrice_15 (by decide) ?_
    refine lv_goto (tgt := 20) hx hb dX1_deletionPrice_16 (by decide) ?_
    exact W.iret (v := nI 1) hx hb hr (fun t9 ht _ => ⟨nI 1, rfl, (congrArg nI (if_pos ⟨hi, c_12⟩).symm), ht⟩) (fun _ h => absurd h List.not_mem_nil) dX1_deletionPrice_20

set_option maxHeartbeats 4000000 in
set_option maxRecDepth 100000 in
theorem c_X1_deletionPrice_0 (l : Launch) (D : va_G) (w : Nat) (a : Nat) (hg : gw a) : Met l yX1_deletionPrice wsX1_deletionPrice { frames := 1, cells := 0, slots := 0, locals := 22 } (va_Pc [.ref w, .int (nI 0)] (qP D ([(w, .inr (7, [.long (lN a), .int (nI (wl a)), .long (lN (al a))]))]) [])) (vp_Si (fun rv : Int32 => rv = nI (delp (ltz a) 0))) 0 0 (fun _ => False) := by
  refine Met.ofW (cc := cX1_deletionPrice) (maxL := 2) (ret := (some .int)) (by decide) rfl ?_
  intro pM eM s mi9 argsM belowM methM cM sM B hml hv
  obtain ⟨rfl, hR, hK, hNw⟩ := hv
  have hx := B.exec
  have hb := B.bytes
  have hr := B.returns
  have hts := atoms_spec (ws := wsX1_deletionPrice) B.pre
  have hown : s.vm.findClass RX1 = some mi9.cls := findClass_of_methodNamed B.named
  have hlocks := B.notSynchronized
  have hS : va_S (fun _ => False) s.heap s.heap [] := va_S.rf
  have hR : va_P D vwCl ([(w, .inr (7, [.long (lN a), .int (nI (wl a)), .long (lN (al a))]))]) s.heap := hR
  have hl := lv_entry ([.ref w, .int (nI 0)]) (n := 2) (Nat.le_of_ble_eq_true rfl)
  rw [lg_entry_eq]
  generalize (lg_sl ([.ref w, .int (nI 0)]) ++ List.replicate (2 - (lg_sl ([.ref w, .int (nI 0)])).length) Slot.unset).toArray = ls at hl ⊢
  have hl : lv_has ls 2 [(0, .ref w), (1, .int (nI 0))] := hl
  have hwa := gw_wl hg
  have hpo := gw_pos hg
  refine lv_aload_n hx hb dX1_deletionPrice_0 rfl (lv_at hl 0 rfl) ?_
  refine lv_iload_n hx hb dX1_deletionPrice_1 rfl (lv_at hl 1 rfl) ?_
  refine vp_callSi (W.runV (As := [.int (nI 0)]) (rest := []) ⟨hx, hb, hml, hown, hts⟩ (c_X8_letterAt (l := l) (D := D) (w := w) (n := a) (p := 0) (hg := hg) (hp := by omega)) (cwV 1 hts gX1_deletionPrice_X8_letterAt rfl rfl rfl (by decide +kernel) ⟨Nat.le_of_ble_eq_true rfl, Nat.le_of_ble_eq_true rfl⟩) ⟨qP_blind, (va_recv hK hR (ci := 7) (q0 := 0) rfl rfl), (qP_of (hR.sub (ws' := [(w, .inr (7, [.long (lN a), .int (nI (wl a)), .long (lN (al a))]))]) [0] rfl) (hK.sub (tys' := []) [] rfl) hNw)⟩ rfl rfl hl.1 rfl (lv_room (Nat.le_of_ble_eq_true rfl)) dX1_deletionPrice_2 ⟨Nat.le_of_ble_eq_true rfl, Nat.le_of_ble_eq_true rfl⟩) (fun r_1 hr_1 => ?_)
  subst hr_1
  refine lv_aload_n hx hb dX1_deletionPrice_5 rfl (lv_at hl 0 rfl) ?_
  refine lv_iload_n hx hb dX1_deletionPrice_6 rfl (lv_at hl 1 rfl) ?_
  refine lv_iconst (v := nI 1) hx hb dX1_deletionPrice_7 (by decide) ?_
  refine lv_isub hx hb dX1_deletionPrice_8 ?_
  refine q_cvi (show ((nI 0) - (nI 1)) = ((-1)) from (by decide)) ?_
  refine vp_callSi (W.runV (As := [.int ((-1))]) (rest := [.int (nI (ltz a 0))]) ⟨hx, hb, hml, hown, hts⟩ (c_X8_letterAt_m (l := l) (D := D) (w := w) (n := a) ) (cwV 1 hts gX1_deletionPrice_X8_letterAt rfl rfl rfl (by decide +kernel) ⟨Nat.le_of_ble_eq_true rfl, Nat.le_of_ble_eq_true rfl⟩) ⟨qP_blind, (va_recv hK hR (ci := 7) (q0 := 0) rfl rfl), (qP_of (hR.sub (ws' := [(w, .inr (7, [.long (lN a), .int (nI (wl a)), .long (lN (al a))]))]) [0] rfl) (hK.sub (tys' := []) [] rfl) hNw)⟩ rfl rfl hl.1 rfl (lv_room (Nat.le_of_ble_eq_true rfl)) dX1_deletionPrice_9 ⟨Nat.le_of_ble_eq_true rfl, Nat.le_of_ble_eq_true rfl⟩) (fun r_2 hr_2 => ?_)
  subst hr_2
  refine q_icmp_ne (a := ltz a 0) (b := 0) (tgt := 19) hx hb dX1_deletionPrice_12 (by decide) (by have := ltz_32 a 0; omega) (by omega) (fun c_12 => ?_) (fun c_12 => False.elim (by rw [ltz_in hpo] at c_12; have := lt_in hg hpo; omega))
  refine lv_iconst (v := nI 2) hx hb dX1_deletionPrice_19 (by decide) ?_
  exact W.iret (v := nI 2) hx hb hr (fun t9 ht _ => ⟨nI 2, rfl, (congrArg nI (if_neg (fun h => by have := h.1; omega)).symm), ht⟩) (fun _ h => absurd h List.not_mem_nil) dX1_deletionPrice_20

theorem c_X1_deletionPrice (l : Launch) (D : va_G) (w : Nat) (a : Nat) (i : Nat) (hg : gw a) (hi2 : i < wl a) : Met l yX1_deletionPrice wsX1_deletionPrice { frames := 1, cells := 0, slots := 0, locals := 22 } (va_Pc [.ref w, .int (nI i)] (qP D ([(w, .inr (7, [.long (lN a), .int (nI (wl a)), .long (lN (al a))]))]) [])) (vp_Si (fun rv : Int32 => rv = nI (delp (ltz a) i))) 0 0 (fun _ => False) := by
  rcases Nat.eq_zero_or_pos i with h | h
  · subst h; exact c_X1_deletionPrice_0 l D w a hg
  · exact c_X1_deletionPrice_p l D w a i hg h hi2

set_option maxHeartbeats 4000000 in
set_option maxRecDepth 100000 in
theorem c_X1_replacementPrice (l : Launch) (D : va_G) (x9 : Nat) (y9 : Nat) (hx1 : 1 ≤ x9) (hx2 : x9 ≤ 26) (hy1 : 1 ≤ y9) (hy2 : y9 ≤ 26) : Met l yX1_replacementPrice wsX1_replacementPrice { frames := 2, cells := 0, slots := 0, locals := 44 } (va_Pc [.int (nI x9), .int (nI y9)] (qPz D ([]) [])) (vp_Si (fun rv : Int32 => rv = nI (repp x9 y9))) 0 0 (fun _ => False) := by
  refine Met.ofW (cc := cX1_replacementPrice) (maxL := 2) (ret := (some .int)) (by decide) rfl ?_
  intro pM eM s mi9 argsM belowM methM cM sM B hml hv
  obtain ⟨rfl, hR, hK, hNw, hZ⟩ := hv
  have hx := B.exec
  have hb := B.bytes
  have hr := B.returns
  have hts := atoms_spec (ws := wsX1_replacementPrice) B.pre
  have hown : s.vm.findClass RX1 = some mi9.cls := findClass_of_methodNamed B.named
  have hlocks := B.notSynchronized
  have hS : va_S (fun _ => False) s.heap s.heap [] := va_S.rf
  have hR : va_P D vwCl ([]) s.heap := hR
  have hl := lv_entry ([.int (nI x9), .int (nI y9)]) (n := 2) (Nat.le_of_ble_eq_true rfl)
  rw [lg_entry_eq]
  generalize (lg_sl ([.int (nI x9), .int (nI y9)]) ++ List.replicate (2 - (lg_sl ([.int (nI x9), .int (nI y9)])).length) Slot.unset).toArray = ls at hl ⊢
  have hl : lv_has ls 2 [(0, .int (nI x9)), (1, .int (nI y9))] := hl
  refine lv_iload_n hx hb dX1_replacementPrice_0 rfl (lv_at hl 0 rfl) ?_
  refine lv_iload_n hx hb dX1_replacementPrice_1 rfl (lv_at hl 1 rfl) ?_
  refine q_icmp_ne (a := x9) (b := y9) (tgt := 7) hx hb dX1_replacementPrice_2 (by decide) (by omega) (by omega) (fun c_2 => ?_) (fun c_2 => ?_)
  · skip
    refine lv_iload_n hx hb dX1_replacementPrice_7 rfl (lv_at hl 0 rfl) ?_
    refine lv_iload_n hx hb dX1_replacementPrice_8 rfl (lv_at hl 1 rfl) ?_
    refine vp_callSi (W.runS (As := [.int (nI x9), .int (nI y9)]) (rest := []) ⟨hx, hb, hml, hown, hts⟩ (c_X3_areBeside (l := l) (D := D) (x9 := x9) (y9 := y9) (hx1 := hx1) (hx2 := hx2) (hy1 := hy1) (hy2 := hy2)) (va_cwS 2 hts gX1_replacementPrice_X3_areBeside rfl rfl rfl (by decide +kernel) ⟨Nat.le_of_ble_eq_true rfl, Nat.le_of_ble_eq_true rfl⟩) ⟨qPz_blind, (qPz_of (q_Pof (fun _ h => absurd h List.not_mem_nil)) (hK.sub (tys' := []) [] rfl) hNw (qZ_at hZ hS (fun _ h => h.elim)))⟩ rfl rfl hl.1 rfl (lv_room (Nat.le_of_ble_eq_true rfl)) dX1_replacementPrice_9 ⟨Nat.le_of_ble_eq_true rfl, Nat.le_of_ble_eq_true rfl⟩) (fun r_1 hr_1 => ?_)
    subst hr_1
    refine q_ifb_eq (tgt := 19) hx hb dX1_replacementPrice_12 (by decide) (fun c_12 => ?_) (fun c_12 => ?_)
    · skip
      refine lv_iconst (v := nI 3) hx hb dX1_replacementPrice_19 (by decide) ?_
      exact W.iret (v := nI 3) hx hb hr (fun t9 ht _ => ⟨nI 3, rfl, (congrArg nI ((if_neg c_2).trans (if_neg c_12)).symm), ht⟩) (fun _ h => absurd h List.not_mem_nil) dX1_replacementPrice_20
    · skip
      refine lv_iconst (v := nI 1) hx hb dX1_replacementPrice_15 (by decide) ?_
      refine lv_goto (tgt := 20) hx hb dX1_replacementPrice_16 (by decide) ?_
      exact W.iret (v := nI 1) hx hb hr (fun t9 ht _ => ⟨nI 1, rfl, (congrArg nI ((if_neg c_2).trans (if_pos c_12)).symm), ht⟩) (fun _ h => absurd h List.not_mem_nil) dX1_replacementPrice_20
  · skip
    refine lv_iconst (v := nI 0) hx hb dX1_replacementPrice_5 (by decide) ?_
    exact W.iret (v := nI 0) hx hb hr (fun t9 ht _ => ⟨nI 0, rfl, (congrArg nI (if_pos c_2).symm), ht⟩) (fun _ h => absurd h List.not_mem_nil) dX1_replacementPrice_6

set_option maxHeartbeats 4000000 in
set_option maxRecDepth 100000 in
theorem c_X1_areExchanged (l : Launch) (D : va_G) (w : Nat) (v : Nat) (a : Nat) (b : Nat) (row : Nat) (col : Nat) (hga : gw a) (hgb : gw b) (h1 : 2 ≤ row) (h2 : row ≤ wl a) (h3 : 2 ≤ col) (h4 : col ≤ wl b) : Met l yX1_areExchanged wsX1_areExchanged { frames := 1, cells := 0, slots := 0, locals := 22 } (va_Pc [.ref w, .ref v, .int (nI row), .int (nI col)] (qP D ([(w, .inr (7, [.long (lN a), .int (nI (wl a)), .long (lN (al a))])), (v, .inr (7, [.long (lN b), .int (nI (wl b)), .long (lN (al b))]))]) [])) (vp_Si (fun rv : Int32 => rv = (if ltz a (row - 2) ≠ ltz a (row - 1) ∧ ltz a (row - 2) = ltz b (col - 1) ∧ ltz a (row - 1) = ltz b (col - 2) then 1 else 0))) 0 0 (fun _ => False) := by
  refine Met.ofW (cc := cX1_areExchanged) (maxL := 6) (ret := (some .boolean)) (by decide) rfl ?_
  intro pM eM s mi9 argsM belowM methM cM sM B hml hv
  obtain ⟨rfl, hR, hK, hNw⟩ := hv
  have hx := B.exec
  have hb := B.bytes
  have hr := B.returns
  have hts := atoms_spec (ws := wsX1_areExchanged) B.pre
  have hown : s.vm.findClass RX1 = some mi9.cls := findClass_of_methodNamed B.named
  have hlocks := B.notSynchronized
  have hS : va_S (fun _ => False) s.heap s.heap [] := va_S.rf
  have hR : va_P D vwCl ([(w, .inr (7, [.long (lN a), .int (nI (wl a)), .long (lN (al a))])), (v, .inr (7, [.long (lN b), .int (nI (wl b)), .long (lN (al b))]))]) s.heap := hR
  have hl := lv_entry ([.ref w, .ref v, .int (nI row), .int (nI col)]) (n := 6) (Nat.le_of_ble_eq_true rfl)
  rw [lg_entry_eq]
  generalize (lg_sl ([.ref w, .ref v, .int (nI row), .int (nI col)]) ++ List.replicate (6 - (lg_sl ([.ref w, .ref v, .int (nI row), .int (nI col)])).length) Slot.unset).toArray = ls at hl ⊢
  have hl : lv_has ls 6 [(0, .ref w), (1, .ref v), (2, .int (nI row)), (3, .int (nI col))] := hl
  have hwa := gw_wl hga
  have hwb := gw_wl hgb
  have q1 := ltz_32 a (row - 2)
  have q2 := ltz_32 a (row - 1)
  have q3 := ltz_32 b (col - 1)
  have q4 := ltz_32 b (col - 2)
  refine lv_aload_n hx hb dX1_areExchanged_0 rfl (lv_at hl 0 rfl) ?_
  refine lv_iload_n hx hb dX1_areExchanged_1 rfl (lv_at hl 2 rfl) ?_
  refine lv_iconst (v := nI 2) hx hb dX1_areExchanged_2 (by decide) ?_
  refine q_isub (d := row - 2) hx hb dX1_areExchanged_3 (by omega) ?_
  refine vp_callSi (W.runV (As := [.int (nI (row - 2))]) (rest := []) ⟨hx, hb, hml, hown, hts⟩ (c_X8_letterAt (l := l) (D := D) (w := w) (n := a) (p := row - 2) (hg := hga) (hp := by omega)) (cwV 1 hts gX1_areExchanged_X8_letterAt rfl rfl rfl (by decide +kernel) ⟨Nat.le_of_ble_eq_true rfl, Nat.le_of_ble_eq_true rfl⟩) ⟨qP_blind, (va_recv hK hR (ci := 7) (q0 := 0) rfl rfl), (qP_of (hR.sub (ws' := [(w, .inr (7, [.long (lN a), .int (nI (wl a)), .long (lN (al a))]))]) [0] rfl) (hK.sub (tys' := []) [] rfl) hNw)⟩ rfl rfl hl.1 rfl (lv_room (Nat.le_of_ble_eq_true rfl)) dX1_areExchanged_4 ⟨Nat.le_of_ble_eq_true rfl, Nat.le_of_ble_eq_true rfl⟩) (fun r_1 hr_1 => ?_)
  subst hr_1
  refine lv_istore (lv' := [(4, .int (nI (ltz a (row - 2)))), (0, .ref w), (1, .ref v), (2, .int (nI row)), (3, .int (nI col))]) hx hb dX1_areExchanged_7 hl (by decide) rfl (fun ls hl => ?_)
  refine lv_aload_n hx hb dX1_areExchanged_9 rfl (lv_at hl 1 rfl) ?_
  refine lv_iload_n hx hb dX1_areExchanged_10 rfl (lv_at hl 3 rfl) ?_
  refine lv_iconst (v := nI 1) hx hb dX1_areExchanged_11 (by decide) ?_
  refine q_isub (d := row - 1) hx hb dX1_areExchanged_12 (by omega) ?_
  refine vp_callSi (W.runV (As := [.int (nI (row - 1))]) (rest := []) ⟨hx, hb, hml, hown, hts⟩ (c_X8_letterAt (l := l) (D := D) (w := w) (n := a) (p := row - 1) (hg := hga) (hp := by omega)) (cwV 1 hts gX1_areExchanged_X8_letterAt rfl rfl rfl (by decide +kernel) ⟨Nat.le_of_ble_eq_true rfl, Nat.le_of_ble_eq_true rfl⟩) ⟨qP_blind, (va_recv hK hR (ci := 7) (q0 := 0) rfl rfl), (qP_of (hR.sub (ws' := [(w, .inr (7, [.long (lN a), .int (nI (wl a)), .long (lN (al a))]))]) [0] rfl) (hK.sub (tys' := []) [] rfl) hNw)⟩ rfl rfl hl.1 rfl (lv_room (Nat.le_of_ble_eq_true rfl)) dX1_areExchanged_13 ⟨Nat.le_of_ble_eq_true rfl, Nat.le_of_ble_eq_true rfl⟩) (fun r_2 hr_2 => ?_)
  subst hr_2
  refine lv_istore (lv' := [(5, .int (nI (ltz a (row - 1)))), (4, .int (nI (ltz a (row - 2)))), (0, .ref w), (1, .ref v), (2, .int (nI row)), (3, .int (nI col))]) hx hb dX1_areExchanged_16 hl (by decide) rfl (fun ls hl => ?_)
  refine lv_iload hx hb dX1_areExchanged_18 (lv_at hl 1 rfl) ?_
  refine lv_iload hx hb dX1_areExchanged_20 (lv_at hl 0 rfl) ?_
  refine q_icmp_eq (a := ltz a (row - 2)) (b := ltz a (row - 1)) (tgt := 53) hx hb dX1_areExchanged_22 (by decide) (by omega) (by omega) (fun c_22 => ?_) (fun c_22 => ?_)
  · skip
    refine lv_iconst (v := nI 0) hx hb dX1_areExchanged_53 (by decide) ?_
    exact W.zret (v := nI 0) hx hb hr (by decide) (fun t9 ht _ => ⟨nI 0, rfl, (if_neg (by omega)).symm, ht⟩) (fun _ h => absurd h List.not_mem_nil) dX1_areExchanged_54
  · skip
    refine lv_iload hx hb dX1_areExchanged_25 (lv_at hl 1 rfl) ?_
    refine lv_aload_n hx hb dX1_areExchanged_27 rfl (lv_at hl 3 rfl) ?_
    refine lv_iload_n hx hb dX1_areExchanged_28 rfl (lv_at hl 5 rfl) ?_
    refine lv_iconst (v := nI 1) hx hb dX1_areExchanged_29 (by decide) ?_
    refine q_isub (d := col - 1) hx hb dX1_areExchanged_30 (by omega) ?_
    refine vp_callSi (W.runV (As := [.int (nI (col - 1))]) (rest := [.int (nI (ltz a (row - 2)))]) ⟨hx, hb, hml, hown, hts⟩ (c_X8_letterAt (l := l) (D := D) (w := v) (n := b) (p := col - 1) (hg := hgb) (hp := by omega)) (cwV 1 hts gX1_areExchanged_X8_letterAt rfl rfl rfl (by decide +kernel) ⟨Nat.le_of_ble_eq_true rfl, Nat.le_of_ble_eq_true rfl⟩) ⟨qP_blind, (va_recv hK hR (ci := 7) (q0 := 1) rfl rfl), (qP_of (hR.sub (ws' := [(v, .inr (7, [.long (lN b), .int (nI (wl b)), .long (lN (al b))]))]) [1] rfl) (hK.sub (tys' := []) [] rfl) hNw)⟩ rfl rfl hl.1 rfl (lv_room (Nat.le_of_ble_eq_true rfl)) dX1_areExchanged_31 ⟨Nat.le_of_ble_eq_true rfl, Nat.le_of_ble_eq_true rfl⟩) (fun r_3 hr_3 => ?_)
    subst hr_3
    refine q_icmp_ne (a := ltz a (row - 2)) (b := ltz b (col - 1)) (tgt := 53) hx hb dX1_areExchanged_34 (by decide) (by omega) (by omega) (fun c_34 => ?_) (fun c_34 => ?_)
    · skip
      refine lv_iconst (v := nI 0) hx hb dX1_areExchanged_53 (by decide) ?_
      exact W.zret (v := nI 0) hx hb hr (by decide) (fun t9 ht _ => ⟨nI 0, rfl, (if_neg (by omega)).symm, ht⟩) (fun _ h => absurd h List.not_mem_nil) dX1_areExchanged_54
    · skip
      refine lv_iload hx hb dX1_areExchanged_37 (lv_at hl 0 rfl) ?_
      refine lv_aload_n hx hb dX1_areExchanged_39 rfl (lv_at hl 3 rfl) ?_
      refine lv_iload_n hx hb dX1_areExchanged_40 rfl (lv_at hl 5 rfl) ?_
      refine lv_iconst (v := nI 2) hx hb dX1_areExchanged_41 (by decide) ?_
      refine q_isub (d := col - 2) hx hb dX1_areExchanged_42 (by omega) ?_
      refine vp_callSi (W.runV (As := [.int (nI (col - 2))]) (rest := [.int (nI (ltz a (row - 1)))]) ⟨hx, hb, hml, hown, hts⟩ (c_X8_letterAt (l := l) (D := D) (w := v) (n := b) (p := col - 2) (hg := hgb) (hp := by omega)) (cwV 1 hts gX1_areExchanged_X8_letterAt rfl rfl rfl (by decide +kernel) ⟨Nat.le_of_ble_eq_true rfl, Nat.le_of_ble_eq_true rfl⟩) ⟨qP_blind, (va_recv hK hR (ci := 7) (q0 := 1) rfl rfl), (qP_of (hR.sub (ws' := [(v, .inr (7, [.long (lN b), .int (nI (wl b)), .long (lN (al b))]))]) [1] rfl) (hK.sub (tys' := []) [] rfl) hNw)⟩ rfl rfl hl.1 rfl (lv_room (Nat.le_of_ble_eq_true rfl)) dX1_areExchanged_43 ⟨Nat.le_of_ble_eq_true rfl, Nat.le_of_ble_eq_true rfl⟩) (fun r_4 hr_4 => ?_)
      subst hr_4
      refine q_icmp_ne (a := ltz a (row - 1)) (b := ltz b (col - 2)) (tgt := 53) hx hb dX1_areExchanged_46 (by decide) (by omega) (by omega) (fun c_46 => ?_) (fun c_46 => ?_)
      · skip
        refine lv_iconst (v := nI 0) hx hb dX1_areExchanged_53 (by decide) ?_
        exact W.zret (v := nI 0) hx hb hr (by decide) (fun t9 ht _ => ⟨nI 0, rfl, (if_neg (by omega)).symm, ht⟩) (fun _ h => absurd h List.not_mem_nil) dX1_areExchanged_54
      · skip
        refine lv_iconst (v := nI 1) hx hb dX1_areExchanged_49 (by decide) ?_
        refine lv_goto (tgt := 54) hx hb dX1_areExchanged_50 (by decide) ?_
        exact W.zret (v := nI 1) hx hb hr (by decide) (fun t9 ht _ => ⟨nI 1, rfl, (if_pos (by omega)).symm, ht⟩) (fun _ h => absurd h List.not_mem_nil) dX1_areExchanged_54

set_option maxRecDepth 20000 in
theorem iX1_leastPrice_X1 : ∀ w ∈ wsX10, w ∈ wsX1_leastPrice := by decide +kernel
set_option maxHeartbeats 4000000 in
set_option maxRecDepth 100000 in
theorem c_X1_leastPrice (l : Launch) (D : va_G) (g : Nat) (gr : Nat) (ce : Nat) (cG : ClassId) (f : Nat → Int32) (w : Nat) (v : Nat) (a : Nat) (b : Nat) (row : Nat) (col : Nat) (hga : gw a) (hgb : gw b) (hrw : row ≤ wl a) (hcl : col ≤ wl b) (hL : ∀ i j, j ≤ wl b → i < row ∨ (i = row ∧ j < col) → f (11 * i + j) = nI (pr (ltz a) (ltz b) i j)) : Met l yX1_leastPrice wsX1_leastPrice { frames := 3, cells := 0, slots := 0, locals := 65 } (va_Pc [.ref g, .ref w, .ref v, .int (nI row), .int (nI col)] (qPz D ([(g, .inr (1, [.ref gr])), (gr, .inr (2, [.ref ce])), (ce, .inl (cG, 121, .inl f)), (w, .inr (7, [.long (lN a), .int (nI (wl a)), .long (lN (al a))])), (v, .inr (7, [.long (lN b), .int (nI (wl b)), .long (lN (al b))]))]) [(cG, .int)])) (vp_Si (fun rv : Int32 => rv = nI (pr (ltz a) (ltz b) row col))) 0 0 (fun _ => False) := by
  refine Met.ofW (cc := cX1_leastPrice) (maxL := 7) (ret := (some .int)) (by decide) rfl ?_
  intro pM eM s mi9 argsM belowM methM cM sM B hml hv
  obtain ⟨rfl, hR, hK, hNw, hZ⟩ := hv
  have hx := B.exec
  have hb := B.bytes
  have hr := B.returns
  have hts := atoms_spec (ws := wsX1_leastPrice) B.pre
  have hown : s.vm.findClass RX1 = some mi9.cls := findClass_of_methodNamed B.named
  have hlocks := B.notSynchronized
  have hS : va_S (fun _ => False) s.heap s.heap [] := va_S.rf
  have hR : va_P D vwCl ([(g, .inr (1, [.ref gr])), (gr, .inr (2, [.ref ce])), (ce, .inl (cG, 121, .inl f)), (w, .inr (7, [.long (lN a), .int (nI (wl a)), .long (lN (al a))])), (v, .inr (7, [.long (lN b), .int (nI (wl b)), .long (lN (al b))]))]) s.heap := hR
  have hl := lv_entry ([.ref g, .ref w, .ref v, .int (nI row), .int (nI col)]) (n := 7) (Nat.le_of_ble_eq_true rfl)
  rw [lg_entry_eq]
  generalize (lg_sl ([.ref g, .ref w, .ref v, .int (nI row), .int (nI col)]) ++ List.replicate (7 - (lg_sl ([.ref g, .ref w, .ref v, .int (nI row), .int (nI col)])).length) Slot.unset).toArray = ls at hl ⊢
  have hl : lv_has ls 7 [(0, .ref g), (1, .ref w), (2, .ref v), (3, .int (nI row)), (4, .int (nI col))] := hl
  have hwa := gw_wl hga
  have hwb := gw_wl hgb
  refine lv_iload_n hx hb dX1_leastPrice_0 rfl (lv_at hl 3 rfl) ?_
  refine q_if_ne (a := row) (tgt := 9) hx hb dX1_leastPrice_1 (by decide) (by omega) (fun c_1 => ?_) (fun c_1 => ?_)
  · skip
    refine lv_aload_n hx hb dX1_leastPrice_9 rfl (lv_at hl 0 rfl) ?_
    refine va_get (D := D) (own := RX1) (ref := "FuzzyFens$Gauge") (ci := 1) (v := .ref gr) (C := RX1) (T := TX1) (N := 1) hx hb hts iX1_leastPrice_X1 hown hK hR 0 rfl rfl 0 (by decide) (hts (.fieldLink RX1 10 "FuzzyFens$Gauge" "grid" "LFuzzyFens$Grid;") (List.mem_of_getElem? (i := 1) rfl)) (fun _ h9 => h9) rfl dX1_leastPrice_10 ?_
    refine lv_iload_n hx hb dX1_leastPrice_13 rfl (lv_at hl 3 rfl) ?_
    refine lv_iconst (v := nI 1) hx hb dX1_leastPrice_14 (by decide) ?_
    refine q_isub (d := row - 1) hx hb dX1_leastPrice_15 (by omega) ?_
    refine lv_iload hx hb dX1_leastPrice_16 (lv_at hl 4 rfl) ?_
    refine vp_callSi (W.runV (As := [.int (nI (row - 1)), .int (nI col)]) (rest := []) ⟨hx, hb, hml, hown, hts⟩ (c_X2_at (l := l) (D := D) (g := gr) (ce := ce) (cA := cG) (f := f) (r := row - 1) (k := col) (hr1 := by omega) (hk1 := by omega)) (cwV 2 hts gX1_leastPrice_X2_at rfl rfl rfl (by decide +kernel) ⟨Nat.le_of_ble_eq_true rfl, Nat.le_of_ble_eq_true rfl⟩) ⟨qP_blind, (va_recv hK hR (ci := 2) (q0 := 1) rfl rfl), (qP_of (hR.sub (ws' := [(gr, .inr (2, [.ref ce])), (ce, .inl (cG, 121, .inl f))]) [1, 2] rfl) (hK.sub (tys' := [(cG, .int)]) [0] rfl) hNw)⟩ rfl rfl hl.1 rfl (lv_room (Nat.le_of_ble_eq_true rfl)) dX1_leastPrice_18 ⟨Nat.le_of_ble_eq_true rfl, Nat.le_of_ble_eq_true rfl⟩) (fun r_1 hr_1 => ?_)
    subst hr_1
    refine q_cvi (show (f (11 * (row - 1) + col)) = (nI (pr (ltz a) (ltz b) (row - 1) col)) from hL _ _ (by omega) (by omega)) ?_
    refine lv_aload_n hx hb dX1_leastPrice_21 rfl (lv_at hl 1 rfl) ?_
    refine lv_iload_n hx hb dX1_leastPrice_22 rfl (lv_at hl 3 rfl) ?_
    refine lv_iconst (v := nI 1) hx hb dX1_leastPrice_23 (by decide) ?_
    refine q_isub (d := row - 1) hx hb dX1_leastPrice_24 (by omega) ?_
    refine vp_callSi (W.runS (As := [.ref w, .int (nI (row - 1))]) (rest := [.int (nI (pr (ltz a) (ltz b) (row - 1) col))]) ⟨hx, hb, hml, hown, hts⟩ (c_X1_deletionPrice (l := l) (D := D) (w := w) (a := a) (i := row - 1) (hg := hga) (hi2 := by omega)) (va_cwS 2 hts gX1_leastPrice_X1_deletionPrice rfl rfl rfl (by decide +kernel) ⟨Nat.le_of_ble_eq_true rfl, Nat.le_of_ble_eq_true rfl⟩) ⟨qP_blind, (qP_of (hR.sub (ws' := [(w, .inr (7, [.long (lN a), .int (nI (wl a)), .long (lN (al a))]))]) [3] rfl) (hK.sub (tys' := []) [] rfl) hNw)⟩ rfl rfl hl.1 rfl (lv_room (Nat.le_of_ble_eq_true rfl)) dX1_leastPrice_25 ⟨Nat.le_of_ble_eq_true rfl, Nat.le_of_ble_eq_true rfl⟩) (fun r_2 hr_2 => ?_)
    subst hr_2
    refine q_iadd (d := pr (ltz a) (ltz b) (row - 1) col + delp (ltz a) (row - 1)) hx hb dX1_leastPrice_28 (by omega) ?_
    refine lv_istore (lv' := [(5, .int (nI (pr (ltz a) (ltz b) (row - 1) col + delp (ltz a) (row - 1)))), (0, .ref g), (1, .ref w), (2, .ref v), (3, .int (nI row)), (4, .int (nI col))]) hx hb dX1_leastPrice_29 hl (by decide) rfl (fun ls hl => ?_)
    refine lv_iload hx hb dX1_leastPrice_31 (lv_at hl 5 rfl) ?_
    refine lv_iconst (v := nI 1) hx hb dX1_leastPrice_33 (by decide) ?_
    refine q_icmp_lt (a := col) (b := 1) (tgt := 102) hx hb dX1_leastPrice_34 (by decide) (by omega) (by omega) (fun c_34 => ?_) (fun c_34 => ?_)
    · skip
      refine lv_iload hx hb dX1_leastPrice_102 (lv_at hl 5 rfl) ?_
      refine lv_iconst (v := nI 2) hx hb dX1_leastPrice_104 (by decide) ?_
      refine q_icmp_lt (a := col) (b := 2) (tgt := 147) hx hb dX1_leastPrice_105 (by decide) (by omega) (by omega) (fun c_105 => ?_) (fun c_105 => ?_)
      · skip
        refine lv_iload hx hb dX1_leastPrice_147 (lv_at hl 0 rfl) ?_
        exact W.iret (v := nI (pr (ltz a) (ltz b) (row - 1) col + delp (ltz a) (row - 1))) hx hb hr (fun t9 ht _ => ⟨nI (pr (ltz a) (ltz b) (row - 1) col + delp (ltz a) (row - 1)), rfl, (by obtain ⟨i, rfl⟩ : ∃ k, row = k + 1 := ⟨row - 1, by omega⟩; rw [show col = 0 by omega]; rfl), ht⟩) (fun _ h => absurd h List.not_mem_nil) dX1_leastPrice_149
      · skip
        refine lv_iload_n hx hb dX1_leastPrice_108 rfl (lv_at hl 4 rfl) ?_
        refine lv_iconst (v := nI 2) hx hb dX1_leastPrice_109 (by decide) ?_
        refine q_icmp_lt (a := row) (b := 2) (tgt := 147) hx hb dX1_leastPrice_110 (by decide) (by omega) (by omega) (fun c_110 => ?_) (fun c_110 => ?_)
        · skip
          refine lv_iload hx hb dX1_leastPrice_147 (lv_at hl 0 rfl) ?_
          exact W.iret (v := nI (pr (ltz a) (ltz b) (row - 1) col + delp (ltz a) (row - 1))) hx hb hr (fun t9 ht _ => ⟨nI (pr (ltz a) (ltz b) (row - 1) col + delp (ltz a) (row - 1)), rfl, (by omega), ht⟩) (fun _ h => absurd h List.not_mem_nil) dX1_leastPrice_149
        · skip
          refine lv_aload_n hx hb dX1_leastPrice_113 rfl (lv_at hl 2 rfl) ?_
          refine lv_aload_n hx hb dX1_leastPrice_114 rfl (lv_at hl 3 rfl) ?_
          refine lv_iload_n hx hb dX1_leastPrice_115 rfl (lv_at hl 4 rfl) ?_
          refine lv_iload hx hb dX1_leastPrice_116 (lv_at hl 5 rfl) ?_
          refine vp_callSi (W.runS (As := [.ref w, .ref v, .int (nI row), .int (nI col)]) (rest := []) ⟨hx, hb, hml, hown, hts⟩ (c_X1_areExchanged (l := l) (D := D) (w := w) (v := v) (a := a) (b := b) (row := row) (col := col) (hga := hga) (hgb := hgb) (h1 := by omega) (h2 := hrw) (h3 := by omega) (h4 := hcl)) (va_cwS 4 hts gX1_leastPrice_X1_areExchanged rfl rfl rfl (by decide +kernel) ⟨Nat.le_of_ble_eq_true rfl, Nat.le_of_ble_eq_true rfl⟩) ⟨qP_blind, (qP_of (hR.sub (ws' := [(w, .inr (7, [.long (lN a), .int (nI (wl a)), .long (lN (al a))])), (v, .inr (7, [.long (lN b), .int (nI (wl b)), .long (lN (al b))]))]) [3, 4] rfl) (hK.sub (tys' := []) [] rfl) hNw)⟩ rfl rfl hl.1 rfl (lv_room (Nat.le_of_ble_eq_true rfl)) dX1_leastPrice_118 ⟨Nat.le_of_ble_eq_true rfl, Nat.le_of_ble_eq_true rfl⟩) (fun r_3 hr_3 => ?_)
          subst hr_3
          refine q_ifb_eq (tgt := 147) hx hb dX1_leastPrice_121 (by decide) (fun c_121 => ?_) (fun c_121 => ?_)
          · skip
            refine lv_iload hx hb dX1_leastPrice_147 (lv_at hl 0 rfl) ?_
            exact W.iret (v := nI (pr (ltz a) (ltz b) (row - 1) col + delp (ltz a) (row - 1))) hx hb hr (fun t9 ht _ => ⟨nI (pr (ltz a) (ltz b) (row - 1) col + delp (ltz a) (row - 1)), rfl, (by omega), ht⟩) (fun _ h => absurd h List.not_mem_nil) dX1_leastPrice_149
          · skip
            refine lv_iload hx hb dX1_leastPrice_124 (lv_at hl 0 rfl) ?_
            refine lv_aload_n hx hb dX1_leastPrice_126 rfl (lv_at hl 1 rfl) ?_
            refine va_get (D := D) (own := RX1) (ref := "FuzzyFens$Gauge") (ci := 1) (v := .ref gr) (C := RX1) (T := TX1) (N := 1) hx hb hts iX1_leastPrice_X1 hown hK hR 0 rfl rfl 0 (by decide) (hts (.fieldLink RX1 10 "FuzzyFens$Gauge" "grid" "LFuzzyFens$Grid;") (List.mem_of_getElem? (i := 1) rfl)) (fun _ h9 => h9) rfl dX1_leastPrice_127 ?_
            refine lv_iload_n hx hb dX1_leastPrice_130 rfl (lv_at hl 4 rfl) ?_
            refine lv_iconst (v := nI 2) hx hb dX1_leastPrice_131 (by decide) ?_
            refine q_isub (d := row - 2) hx hb dX1_leastPrice_132 (by omega) ?_
            refine lv_iload hx hb dX1_leastPrice_133 (lv_at hl 5 rfl) ?_
            refine lv_iconst (v := nI 2) hx hb dX1_leastPrice_135 (by decide) ?_
            refine q_isub (d := col - 2) hx hb dX1_leastPrice_136 (by omega) ?_
            refine vp_callSi (W.runV (As := [.int (nI (row - 2)), .int (nI (col - 2))]) (rest := [.int (nI (pr (ltz a) (ltz b) (row - 1) col + delp (ltz a) (row - 1)))]) ⟨hx, hb, hml, hown, hts⟩ (c_X2_at (l := l) (D := D) (g := gr) (ce := ce) (cA := cG) (f := f) (r := row - 2) (k := col - 2) (hr1 := by omega) (hk1 := by omega)) (cwV 2 hts gX1_leastPrice_X2_at rfl rfl rfl (by decide +kernel) ⟨Nat.le_of_ble_eq_true rfl, Nat.le_of_ble_eq_true rfl⟩) ⟨qP_blind, (va_recv hK hR (ci := 2) (q0 := 1) rfl rfl), (qP_of (hR.sub (ws' := [(gr, .inr (2, [.ref ce])), (ce, .inl (cG, 121, .inl f))]) [1, 2] rfl) (hK.sub (tys' := [(cG, .int)]) [0] rfl) hNw)⟩ rfl rfl hl.1 rfl (lv_room (Nat.le_of_ble_eq_true rfl)) dX1_leastPrice_137 ⟨Nat.le_of_ble_eq_true rfl, Nat.le_of_ble_eq_true rfl⟩) (fun r_4 hr_4 => ?_)
            subst hr_4
            refine q_cvi (show (f (11 * (row - 2) + (col - 2))) = (nI (pr (ltz a) (ltz b) (row - 2) (col - 2))) from hL _ _ (by omega) (by omega)) ?_
            refine lv_iconst (v := nI 1) hx hb dX1_leastPrice_140 (by decide) ?_
            refine q_iadd (d := pr (ltz a) (ltz b) (row - 2) (col - 2) + 1) hx hb dX1_leastPrice_141 (by omega) ?_
            refine va_mmin hx hb (hml.trans hl.1.symm) hown (hts (.methodLink RX1 42 Lib.Math.min.name) (List.mem_of_getElem? (i := 2) rfl)) (hts (.static Lib.Math.min.name) (List.mem_of_getElem? (i := 3) rfl)) (hts (.initialized "java/lang/Math") (List.mem_of_getElem? (i := 4) rfl)) (hts (.code Lib.Math.min.name Lib.Math.min.code 2 (some .int)) (List.mem_of_getElem? (i := 5) rfl)) (Nat.le_of_ble_eq_true rfl) (Nat.le_of_ble_eq_true rfl) (Nat.le_of_ble_eq_true rfl) (Nat.le_of_ble_eq_true rfl) dX1_leastPrice_142 ?_
            refine q_cvi (q_min (by have := pr_le (ltz a) (ltz b) (row - 1) (col); have := pr_le (ltz a) (ltz b) (row) (col - 1); have := pr_le (ltz a) (ltz b) (row - 1) (col - 1); have := pr_le (ltz a) (ltz b) (row - 2) (col - 2); have := delp_le (ltz a) (row - 1); have := repp_le (ltz a (row - 1)) (ltz b (col - 1)); omega) (by have := pr_le (ltz a) (ltz b) (row - 1) (col); have := pr_le (ltz a) (ltz b) (row) (col - 1); have := pr_le (ltz a) (ltz b) (row - 1) (col - 1); have := pr_le (ltz a) (ltz b) (row - 2) (col - 2); have := delp_le (ltz a) (row - 1); have := repp_le (ltz a (row - 1)) (ltz b (col - 1)); omega)) ?_
            refine lv_istore (lv' := [(5, .int (nI (min (pr (ltz a) (ltz b) (row - 1) col + delp (ltz a) (row - 1)) (pr (ltz a) (ltz b) (row - 2) (col - 2) + 1)))), (0, .ref g), (1, .ref w), (2, .ref v), (3, .int (nI row)), (4, .int (nI col))]) hx hb dX1_leastPrice_145 hl (by decide) rfl (fun ls hl => ?_)
            refine lv_iload hx hb dX1_leastPrice_147 (lv_at hl 0 rfl) ?_
            exact W.iret (v := nI (min (pr (ltz a) (ltz b) (row - 1) col + delp (ltz a) (row - 1)) (pr (ltz a) (ltz b) (row - 2) (col - 2) + 1))) hx hb hr (fun t9 ht _ => ⟨nI (min (pr (ltz a) (ltz b) (row - 1) col + delp (ltz a) (row - 1)) (pr (ltz a) (ltz b) (row - 2) (col - 2) + 1)), rfl, (by omega), ht⟩) (fun _ h => absurd h List.not_mem_nil) dX1_leastPrice_149
    · skip
      refine lv_aload_n hx hb dX1_leastPrice_37 rfl (lv_at hl 2 rfl) ?_
      refine lv_iload_n hx hb dX1_leastPrice_38 rfl (lv_at hl 4 rfl) ?_
      refine lv_iconst (v := nI 1) hx hb dX1_leastPrice_39 (by decide) ?_
      refine q_isub (d := row - 1) hx hb dX1_leastPrice_40 (by omega) ?_
      refine vp_callSi (W.runV (As := [.int (nI (row - 1))]) (rest := []) ⟨hx, hb, hml, hown, hts⟩ (c_X8_letterAt (l := l) (D := D) (w := w) (n := a) (p := row - 1) (hg := hga) (hp := by omega)) (cwV 1 hts gX1_leastPrice_X8_letterAt rfl rfl rfl (by decide +kernel) ⟨Nat.le_of_ble_eq_true rfl, Nat.le_of_ble_eq_true rfl⟩) ⟨qP_blind, (va_recv hK hR (ci := 7) (q0 := 3) rfl rfl), (qP_of (hR.sub (ws' := [(w, .inr (7, [.long (lN a), .int (nI (wl a)), .long (lN (al a))]))]) [3] rfl) (hK.sub (tys' := []) [] rfl) hNw)⟩ rfl rfl hl.1 rfl (lv_room (Nat.le_of_ble_eq_true rfl)) dX1_leastPrice_41 ⟨Nat.le_of_ble_eq_true rfl, Nat.le_of_ble_eq_true rfl⟩) (fun r_5 hr_5 => ?_)
      subst hr_5
      refine lv_aload_n hx hb dX1_leastPrice_44 rfl (lv_at hl 3 rfl) ?_
      refine lv_iload hx hb dX1_leastPrice_45 (lv_at hl 5 rfl) ?_
      refine lv_iconst (v := nI 1) hx hb dX1_leastPrice_47 (by decide) ?_
      refine q_isub (d := col - 1) hx hb dX1_leastPrice_48 (by omega) ?_
      refine vp_callSi (W.runV (As := [.int (nI (col - 1))]) (rest := [.int (nI (ltz a (row - 1)))]) ⟨hx, hb, hml, hown, hts⟩ (c_X8_letterAt (l := l) (D := D) (w := v) (n := b) (p := col - 1) (hg := hgb) (hp := by omega)) (cwV 1 hts gX1_leastPrice_X8_letterAt rfl rfl rfl (by decide +kernel) ⟨Nat.le_of_ble_eq_true rfl, Nat.le_of_ble_eq_true rfl⟩) ⟨qP_blind, (va_recv hK hR (ci := 7) (q0 := 4) rfl rfl), (qP_of (hR.sub (ws' := [(v, .inr (7, [.long (lN b), .int (nI (wl b)), .long (lN (al b))]))]) [4] rfl) (hK.sub (tys' := []) [] rfl) hNw)⟩ rfl rfl hl.1 rfl (lv_room (Nat.le_of_ble_eq_true rfl)) dX1_leastPrice_49 ⟨Nat.le_of_ble_eq_true rfl, Nat.le_of_ble_eq_true rfl⟩) (fun r_6 hr_6 => ?_)
      subst hr_6
      refine vp_callSi (W.runS (As := [.int (nI (ltz a (row - 1))), .int (nI (ltz b (col - 1)))]) (rest := []) ⟨hx, hb, hml, hown, hts⟩ (c_X1_replacementPrice (l := l) (D := D) (x9 := ltz a (row - 1)) (y9 := ltz b (col - 1)) (hx1 := (by rw [ltz_in (by omega)]; exact (lt_in hga (by omega)).1)) (hx2 := (by rw [ltz_in (by omega)]; exact (lt_in hga (by omega)).2)) (hy1 := (by rw [ltz_in (by omega)]; exact (lt_in hgb (by omega)).1)) (hy2 := (by rw [ltz_in (by omega)]; exact (lt_in hgb (by omega)).2))) (va_cwS 2 hts gX1_leastPrice_X1_replacementPrice rfl rfl rfl (by decide +kernel) ⟨Nat.le_of_ble_eq_true rfl, Nat.le_of_ble_eq_true rfl⟩) ⟨qPz_blind, (qPz_of (q_Pof (fun _ h => absurd h List.not_mem_nil)) (hK.sub (tys' := []) [] rfl) hNw (qZ_at hZ hS (fun _ h => h.elim)))⟩ rfl rfl hl.1 rfl (lv_room (Nat.le_of_ble_eq_true rfl)) dX1_leastPrice_52 ⟨Nat.le_of_ble_eq_true rfl, Nat.le_of_ble_eq_true rfl⟩) (fun r_7 hr_7 => ?_)
      subst hr_7
      refine lv_istore (lv' := [(6, .int (nI (repp (ltz a (row - 1)) (ltz b (col - 1))))), (5, .int (nI (pr (ltz a) (ltz b) (row - 1) col + delp (ltz a) (row - 1)))), (0, .ref g), (1, .ref w), (2, .ref v), (3, .int (nI row)), (4, .int (nI col))]) hx hb dX1_leastPrice_55 hl (by decide) rfl (fun ls hl => ?_)
      refine lv_iload hx hb dX1_leastPrice_57 (lv_at hl 1 rfl) ?_
      refine lv_aload_n hx hb dX1_leastPrice_59 rfl (lv_at hl 2 rfl) ?_
      refine va_get (D := D) (own := RX1) (ref := "FuzzyFens$Gauge") (ci := 1) (v := .ref gr) (C := RX1) (T := TX1) (N := 1) hx hb hts iX1_leastPrice_X1 hown hK hR 0 rfl rfl 0 (by decide) (hts (.fieldLink RX1 10 "FuzzyFens$Gauge" "grid" "LFuzzyFens$Grid;") (List.mem_of_getElem? (i := 1) rfl)) (fun _ h9 => h9) rfl dX1_leastPrice_60 ?_
      refine lv_iload_n hx hb dX1_leastPrice_63 rfl (lv_at hl 5 rfl) ?_
      refine lv_iload hx hb dX1_leastPrice_64 (lv_at hl 6 rfl) ?_
      refine lv_iconst (v := nI 1) hx hb dX1_leastPrice_66 (by decide) ?_
      refine q_isub (d := col - 1) hx hb dX1_leastPrice_67 (by omega) ?_
      refine vp_callSi (W.runV (As := [.int (nI row), .int (nI (col - 1))]) (rest := [.int (nI (pr (ltz a) (ltz b) (row - 1) col + delp (ltz a) (row - 1)))]) ⟨hx, hb, hml, hown, hts⟩ (c_X2_at (l := l) (D := D) (g := gr) (ce := ce) (cA := cG) (f := f) (r := row) (k := col - 1) (hr1 := by omega) (hk1 := by omega)) (cwV 2 hts gX1_leastPrice_X2_at rfl rfl rfl (by decide +kernel) ⟨Nat.le_of_ble_eq_true rfl, Nat.le_of_ble_eq_true rfl⟩) ⟨qP_blind, (va_recv hK hR (ci := 2) (q0 := 1) rfl rfl), (qP_of (hR.sub (ws' := [(gr, .inr (2, [.ref ce])), (ce, .inl (cG, 121, .inl f))]) [1, 2] rfl) (hK.sub (tys' := [(cG, .int)]) [0] rfl) hNw)⟩ rfl rfl hl.1 rfl (lv_room (Nat.le_of_ble_eq_true rfl)) dX1_leastPrice_68 ⟨Nat.le_of_ble_eq_true rfl, Nat.le_of_ble_eq_true rfl⟩) (fun r_8 hr_8 => ?_)
      subst hr_8
      refine q_cvi (show (f (11 * row + (col - 1))) = (nI (pr (ltz a) (ltz b) row (col - 1))) from hL _ _ (by omega) (by omega)) ?_
      refine lv_iconst (v := nI 2) hx hb dX1_leastPrice_71 (by decide) ?_
      refine q_iadd (d := pr (ltz a) (ltz b) row (col - 1) + 2) hx hb dX1_leastPrice_72 (by omega) ?_
      refine va_mmin hx hb (hml.trans hl.1.symm) hown (hts (.methodLink RX1 42 Lib.Math.min.name) (List.mem_of_getElem? (i := 2) rfl)) (hts (.static Lib.Math.min.name) (List.mem_of_getElem? (i := 3) rfl)) (hts (.initialized "java/lang/Math") (List.mem_of_getElem? (i := 4) rfl)) (hts (.code Lib.Math.min.name Lib.Math.min.code 2 (some .int)) (List.mem_of_getElem? (i := 5) rfl)) (Nat.le_of_ble_eq_true rfl) (Nat.le_of_ble_eq_true rfl) (Nat.le_of_ble_eq_true rfl) (Nat.le_of_ble_eq_true rfl) dX1_leastPrice_73 ?_
      refine q_cvi (q_min (by have := pr_le (ltz a) (ltz b) (row - 1) (col); have := pr_le (ltz a) (ltz b) (row) (col - 1); have := pr_le (ltz a) (ltz b) (row - 1) (col - 1); have := pr_le (ltz a) (ltz b) (row - 2) (col - 2); have := delp_le (ltz a) (row - 1); have := repp_le (ltz a (row - 1)) (ltz b (col - 1)); omega) (by have := pr_le (ltz a) (ltz b) (row - 1) (col); have := pr_le (ltz a) (ltz b) (row) (col - 1); have := pr_le (ltz a) (ltz b) (row - 1) (col - 1); have := pr_le (ltz a) (ltz b) (row - 2) (col - 2); have := delp_le (ltz a) (row - 1); have := repp_le (ltz a (row - 1)) (ltz b (col - 1)); omega)) ?_
      refine lv_istore (lv' := [(5, .int (nI (min (pr (ltz a) (ltz b) (row - 1) col + delp (ltz a) (row - 1)) (pr (ltz a) (ltz b) row (col - 1) + 2)))), (6, .int (nI (repp (ltz a (row - 1)) (ltz b (col - 1))))), (0, .ref g), (1, .ref w), (2, .ref v), (3, .int (nI row)), (4, .int (nI col))]) hx hb dX1_leastPrice_76 hl (by decide) rfl (fun ls hl => ?_)
      refine lv_iload hx hb dX1_leastPrice_78 (lv_at hl 0 rfl) ?_
      refine lv_aload_n hx hb dX1_leastPrice_80 rfl (lv_at hl 2 rfl) ?_
      refine va_get (D := D) (own := RX1) (ref := "FuzzyFens$Gauge") (ci := 1) (v := .ref gr) (C := RX1) (T := TX1) (N := 1) hx hb hts iX1_leastPrice_X1 hown hK hR 0 rfl rfl 0 (by decide) (hts (.fieldLink RX1 10 "FuzzyFens$Gauge" "grid" "LFuzzyFens$Grid;") (List.mem_of_getElem? (i := 1) rfl)) (fun _ h9 => h9) rfl dX1_leastPrice_81 ?_
      refine lv_iload_n hx hb dX1_leastPrice_84 rfl (lv_at hl 5 rfl) ?_
      refine lv_iconst (v := nI 1) hx hb dX1_leastPrice_85 (by decide) ?_
      refine q_isub (d := row - 1) hx hb dX1_leastPrice_86 (by omega) ?_
      refine lv_iload hx hb dX1_leastPrice_87 (lv_at hl 6 rfl) ?_
      refine lv_iconst (v := nI 1) hx hb dX1_leastPrice_89 (by decide) ?_
      refine q_isub (d := col - 1) hx hb dX1_leastPrice_90 (by omega) ?_
      refine vp_callSi (W.runV (As := [.int (nI (row - 1)), .int (nI (col - 1))]) (rest := [.int (nI (min (pr (ltz a) (ltz b) (row - 1) col + delp (ltz a) (row - 1)) (pr (ltz a) (ltz b) row (col - 1) + 2)))]) ⟨hx, hb, hml, hown, hts⟩ (c_X2_at (l := l) (D := D) (g := gr) (ce := ce) (cA := cG) (f := f) (r := row - 1) (k := col - 1) (hr1 := by omega) (hk1 := by omega)) (cwV 2 hts gX1_leastPrice_X2_at rfl rfl rfl (by decide +kernel) ⟨Nat.le_of_ble_eq_true rfl, Nat.le_of_ble_eq_true rfl⟩) ⟨qP_blind, (va_recv hK hR (ci := 2) (q0 := 1) rfl rfl), (qP_of (hR.sub (ws' := [(gr, .inr (2, [.ref ce])), (ce, .inl (cG, 121, .inl f))]) [1, 2] rfl) (hK.sub (tys' := [(cG, .int)]) [0] rfl) hNw)⟩ rfl rfl hl.1 rfl (lv_room (Nat.le_of_ble_eq_true rfl)) dX1_leastPrice_91 ⟨Nat.le_of_ble_eq_true rfl, Nat.le_of_ble_eq_true rfl⟩) (fun r_9 hr_9 => ?_)
      subst hr_9
      refine q_cvi (show (f (11 * (row - 1) + (col - 1))) = (nI (pr (ltz a) (ltz b) (row - 1) (col - 1))) from hL _ _ (by omega) (by omega)) ?_
      refine lv_iload hx hb dX1_leastPrice_94 (lv_at hl 1 rfl) ?_
      refine q_iadd (d := pr (ltz a) (ltz b) (row - 1) (col - 1) + repp (ltz a (row - 1)) (ltz b (col - 1))) hx hb dX1_leastPrice_96 (by omega) ?_
      refine va_mmin hx hb (hml.trans hl.1.symm) hown (hts (.methodLink RX1 42 Lib.Math.min.name) (List.mem_of_getElem? (i := 2) rfl)) (hts (.static Lib.Math.min.name) (List.mem_of_getElem? (i := 3) rfl)) (hts (.initialized "java/lang/Math") (List.mem_of_getElem? (i := 4) rfl)) (hts (.code Lib.Math.min.name Lib.Math.min.code 2 (some .int)) (List.mem_of_getElem? (i := 5) rfl)) (Nat.le_of_ble_eq_true rfl) (Nat.le_of_ble_eq_true rfl) (Nat.le_of_ble_eq_true rfl) (Nat.le_of_ble_eq_true rfl) dX1_leastPrice_97 ?_
      refine q_cvi (q_min (by have := pr_le (ltz a) (ltz b) (row - 1) (col); have := pr_le (ltz a) (ltz b) (row) (col - 1); have := pr_le (ltz a) (ltz b) (row - 1) (col - 1); have := pr_le (ltz a) (ltz b) (row - 2) (col - 2); have := delp_le (ltz a) (row - 1); have := repp_le (ltz a (row - 1)) (ltz b (col - 1)); omega) (by have := pr_le (ltz a) (ltz b) (row - 1) (col); have := pr_le (ltz a) (ltz b) (row) (col - 1); have := pr_le (ltz a) (ltz b) (row - 1) (col - 1); have := pr_le (ltz a) (ltz b) (row - 2) (col - 2); have := delp_le (ltz a) (row - 1); have := repp_le (ltz a (row - 1)) (ltz b (col - 1)); omega)) ?_
      refine lv_istore (lv' := [(5, .int (nI (min (min (pr (ltz a) (ltz b) (row - 1) col + delp (ltz a) (row - 1)) (pr (ltz a) (ltz b) row (col - 1) + 2)) (pr (ltz a) (ltz b) (row - 1) (col - 1) + repp (ltz a (row - 1)) (ltz b (col - 1)))))), (6, .int (nI (repp (ltz a (row - 1)) (ltz b (col - 1))))), (0, .ref g), (1, .ref w), (2, .ref v), (3, .int (nI row)), (4, .int (nI col))]) hx hb dX1_leastPrice_100 hl (by decide) rfl (fun ls hl => ?_)
      refine lv_iload hx hb dX1_leastPrice_102 (lv_at hl 6 rfl) ?_
      refine lv_iconst (v := nI 2) hx hb dX1_leastPrice_104 (by decide) ?_
      refine q_icmp_lt (a := col) (b := 2) (tgt := 147) hx hb dX1_leastPrice_105 (by decide) (by omega) (by omega) (fun c_105 => ?_) (fun c_105 => ?_)
      · skip
        refine lv_iload hx hb dX1_leastPrice_147 (lv_at hl 0 rfl) ?_
        exact W.iret (v := nI (min (min (pr (ltz a) (ltz b) (row - 1) col + delp (ltz a) (row - 1)) (pr (ltz a) (ltz b) row (col - 1) + 2)) (pr (ltz a) (ltz b) (row - 1) (col - 1) + repp (ltz a (row - 1)) (ltz b (col - 1))))) hx hb hr (fun t9 ht _ => ⟨nI (min (min (pr (ltz a) (ltz b) (row - 1) col + delp (ltz a) (row - 1)) (pr (ltz a) (ltz b) row (col - 1) + 2)) (pr (ltz a) (ltz b) (row - 1) (col - 1) + repp (ltz a (row - 1)) (ltz b (col - 1)))), rfl, (by obtain ⟨i, rfl⟩ : ∃ k, row = k + 1 := ⟨row - 1, by omega⟩; obtain ⟨j, rfl⟩ : ∃ k, col = k + 1 := ⟨col - 1, by omega⟩; rw [pr_ss]; exact congrArg nI (if_neg (fun h => by have := h.2.1; omega)).symm), ht⟩) (fun _ h => absurd h List.not_mem_nil) dX1_leastPrice_149
      · skip
        refine lv_iload_n hx hb dX1_leastPrice_108 rfl (lv_at hl 5 rfl) ?_
        refine lv_iconst (v := nI 2) hx hb dX1_leastPrice_109 (by decide) ?_
        refine q_icmp_lt (a := row) (b := 2) (tgt := 147) hx hb dX1_leastPrice_110 (by decide) (by omega) (by omega) (fun c_110 => ?_) (fun c_110 => ?_)
        · skip
          refine lv_iload hx hb dX1_leastPrice_147 (lv_at hl 0 rfl) ?_
          exact W.iret (v := nI (min (min (pr (ltz a) (ltz b) (row - 1) col + delp (ltz a) (row - 1)) (pr (ltz a) (ltz b) row (col - 1) + 2)) (pr (ltz a) (ltz b) (row - 1) (col - 1) + repp (ltz a (row - 1)) (ltz b (col - 1))))) hx hb hr (fun t9 ht _ => ⟨nI (min (min (pr (ltz a) (ltz b) (row - 1) col + delp (ltz a) (row - 1)) (pr (ltz a) (ltz b) row (col - 1) + 2)) (pr (ltz a) (ltz b) (row - 1) (col - 1) + repp (ltz a (row - 1)) (ltz b (col - 1)))), rfl, (by obtain ⟨i, rfl⟩ : ∃ k, row = k + 1 := ⟨row - 1, by omega⟩; obtain ⟨j, rfl⟩ : ∃ k, col = k + 1 := ⟨col - 1, by omega⟩; rw [pr_ss]; exact congrArg nI (if_neg (fun h => by have := h.1; omega)).symm), ht⟩) (fun _ h => absurd h List.not_mem_nil) dX1_leastPrice_149
        · skip
          refine lv_aload_n hx hb dX1_leastPrice_113 rfl (lv_at hl 3 rfl) ?_
          refine lv_aload_n hx hb dX1_leastPrice_114 rfl (lv_at hl 4 rfl) ?_
          refine lv_iload_n hx hb dX1_leastPrice_115 rfl (lv_at hl 5 rfl) ?_
          refine lv_iload hx hb dX1_leastPrice_116 (lv_at hl 6 rfl) ?_
          refine vp_callSi (W.runS (As := [.ref w, .ref v, .int (nI row), .int (nI col)]) (rest := []) ⟨hx, hb, hml, hown, hts⟩ (c_X1_areExchanged (l := l) (D := D) (w := w) (v := v) (a := a) (b := b) (row := row) (col := col) (hga := hga) (hgb := hgb) (h1 := by omega) (h2 := hrw) (h3 := by omega) (h4 := hcl)) (va_cwS 4 hts gX1_leastPrice_X1_areExchanged rfl rfl rfl (by decide +kernel) ⟨Nat.le_of_ble_eq_true rfl, Nat.le_of_ble_eq_true rfl⟩) ⟨qP_blind, (qP_of (hR.sub (ws' := [(w, .inr (7, [.long (lN a), .int (nI (wl a)), .long (lN (al a))])), (v, .inr (7, [.long (lN b), .int (nI (wl b)), .long (lN (al b))]))]) [3, 4] rfl) (hK.sub (tys' := []) [] rfl) hNw)⟩ rfl rfl hl.1 rfl (lv_room (Nat.le_of_ble_eq_true rfl)) dX1_leastPrice_118 ⟨Nat.le_of_ble_eq_true rfl, Nat.le_of_ble_eq_true rfl⟩) (fun r_10 hr_10 => ?_)
          subst hr_10
          refine q_ifb_eq (tgt := 147) hx hb dX1_leastPrice_121 (by decide) (fun c_121 => ?_) (fun c_121 => ?_)
          · skip
            refine lv_iload hx hb dX1_leastPrice_147 (lv_at hl 0 rfl) ?_
            exact W.iret (v := nI (min (min (pr (ltz a) (ltz b) (row - 1) col + delp (ltz a) (row - 1)) (pr (ltz a) (ltz b) row (col - 1) + 2)) (pr (ltz a) (ltz b) (row - 1) (col - 1) + repp (ltz a (row - 1)) (ltz b (col - 1))))) hx hb hr (fun t9 ht _ => ⟨nI (min (min (pr (ltz a) (ltz b) (row - 1) col + delp (ltz a) (row - 1)) (pr (ltz a) (ltz b) row (col - 1) + 2)) (pr (ltz a) (ltz b) (row - 1) (col - 1) + repp (ltz a (row - 1)) (ltz b (col - 1)))), rfl, (by obtain ⟨i, rfl⟩ : ∃ k, row = k + 1 := ⟨row - 1, by omega⟩; obtain ⟨j, rfl⟩ : ∃ k, col = k + 1 := ⟨col - 1, by omega⟩; rw [pr_ss]; exact congrArg nI (if_neg (fun h => c_121 ⟨h.2.2.1, h.2.2.2.1, h.2.2.2.2⟩)).symm), ht⟩) (fun _ h => absurd h List.not_mem_nil) dX1_leastPrice_149
          · skip
            refine lv_iload hx hb dX1_leastPrice_124 (lv_at hl 0 rfl) ?_
            refine lv_aload_n hx hb dX1_leastPrice_126 rfl (lv_at hl 2 rfl) ?_
            refine va_get (D := D) (own := RX1) (ref := "FuzzyFens$Gauge") (ci := 1) (v := .ref gr) (C := RX1) (T := TX1) (N := 1) hx hb hts iX1_leastPrice_X1 hown hK hR 0 rfl rfl 0 (by decide) (hts (.fieldLink RX1 10 "FuzzyFens$Gauge" "grid" "LFuzzyFens$Grid;") (List.mem_of_getElem? (i := 1) rfl)) (fun _ h9 => h9) rfl dX1_leastPrice_127 ?_
            refine lv_iload_n hx hb dX1_leastPrice_130 rfl (lv_at hl 5 rfl) ?_
            refine lv_iconst (v := nI 2) hx hb dX1_leastPrice_131 (by decide) ?_
            refine q_isub (d := row - 2) hx hb dX1_leastPrice_132 (by omega) ?_
            refine lv_iload hx hb dX1_leastPrice_133 (lv_at hl 6 rfl) ?_
            refine lv_iconst (v := nI 2) hx hb dX1_leastPrice_135 (by decide) ?_
            refine q_isub (d := col - 2) hx hb dX1_leastPrice_136 (by omega) ?_
            refine vp_callSi (W.runV (As := [.int (nI (row - 2)), .int (nI (col - 2))]) (rest := [.int (nI (min (min (pr (ltz a) (ltz b) (row - 1) col + delp (ltz a) (row - 1)) (pr (ltz a) (ltz b) row (col - 1) + 2)) (pr (ltz a) (ltz b) (row - 1) (col - 1) + repp (ltz a (row - 1)) (ltz b (col - 1)))))]) ⟨hx, hb, hml, hown, hts⟩ (c_X2_at (l := l) (D := D) (g := gr) (ce := ce) (cA := cG) (f := f) (r := row - 2) (k := col - 2) (hr1 := by omega) (hk1 := by omega)) (cwV 2 hts gX1_leastPrice_X2_at rfl rfl rfl (by decide +kernel) ⟨Nat.le_of_ble_eq_true rfl, Nat.le_of_ble_eq_true rfl⟩) ⟨qP_blind, (va_recv hK hR (ci := 2) (q0 := 1) rfl rfl), (qP_of (hR.sub (ws' := [(gr, .inr (2, [.ref ce])), (ce, .inl (cG, 121, .inl f))]) [1, 2] rfl) (hK.sub (tys' := [(cG, .int)]) [0] rfl) hNw)⟩ rfl rfl hl.1 rfl (lv_room (Nat.le_of_ble_eq_true rfl)) dX1_leastPrice_137 ⟨Nat.le_of_ble_eq_true rfl, Nat.le_of_ble_eq_true rfl⟩) (fun r_11 hr_11 => ?_)
            subst hr_11
            refine q_cvi (show (f (11 * (row - 2) + (col - 2))) = (nI (pr (ltz a) (ltz b) (row - 2) (col - 2))) from hL _ _ (by omega) (by omega)) ?_
            refine lv_iconst (v := nI 1) hx hb dX1_leastPrice_140 (by decide) ?_
            refine q_iadd (d := pr (ltz a) (ltz b) (row - 2) (col - 2) + 1) hx hb dX1_leastPrice_141 (by omega) ?_
            refine va_mmin hx hb (hml.trans hl.1.symm) hown (hts (.methodLink RX1 42 Lib.Math.min.name) (List.mem_of_getElem? (i := 2) rfl)) (hts (.static Lib.Math.min.name) (List.mem_of_getElem? (i := 3) rfl)) (hts (.initialized "java/lang/Math") (List.mem_of_getElem? (i := 4) rfl)) (hts (.code Lib.Math.min.name Lib.Math.min.code 2 (some .int)) (List.mem_of_getElem? (i := 5) rfl)) (Nat.le_of_ble_eq_true rfl) (Nat.le_of_ble_eq_true rfl) (Nat.le_of_ble_eq_true rfl) (Nat.le_of_ble_eq_true rfl) dX1_leastPrice_142 ?_
            refine q_cvi (q_min (by have := pr_le (ltz a) (ltz b) (row - 1) (col); have := pr_le (ltz a) (ltz b) (row) (col - 1); have := pr_le (ltz a) (ltz b) (row - 1) (col - 1); have := pr_le (ltz a) (ltz b) (row - 2) (col - 2); have := delp_le (ltz a) (row - 1); have := repp_le (ltz a (row - 1)) (ltz b (col - 1)); omega) (by have := pr_le (ltz a) (ltz b) (row - 1) (col); have := pr_le (ltz a) (ltz b) (row) (col - 1); have := pr_le (ltz a) (ltz b) (row - 1) (col - 1); have := pr_le (ltz a) (ltz b) (row - 2) (col - 2); have := delp_le (ltz a) (row - 1); have := repp_le (ltz a (row - 1)) (ltz b (col - 1)); omega)) ?_
            refine lv_istore (lv' := [(5, .int (nI (min (min (min (pr (ltz a) (ltz b) (row - 1) col + delp (ltz a) (row - 1)) (pr (ltz a) (ltz b) row (col - 1) + 2)) (pr (ltz a) (ltz b) (row - 1) (col - 1) + repp (ltz a (row - 1)) (ltz b (col - 1)))) (pr (ltz a) (ltz b) (row - 2) (col - 2) + 1)))), (6, .int (nI (repp (ltz a (row - 1)) (ltz b (col - 1))))), (0, .ref g), (1, .ref w), (2, .ref v), (3, .int (nI row)), (4, .int (nI col))]) hx hb dX1_leastPrice_145 hl (by decide) rfl (fun ls hl => ?_)
            refine lv_iload hx hb dX1_leastPrice_147 (lv_at hl 0 rfl) ?_
            exact W.iret (v := nI (min (min (min (pr (ltz a) (ltz b) (row - 1) col + delp (ltz a) (row - 1)) (pr (ltz a) (ltz b) row (col - 1) + 2)) (pr (ltz a) (ltz b) (row - 1) (col - 1) + repp (ltz a (row - 1)) (ltz b (col - 1)))) (pr (ltz a) (ltz b) (row - 2) (col - 2) + 1))) hx hb hr (fun t9 ht _ => ⟨nI (min (min (min (pr (ltz a) (ltz b) (row - 1) col + delp (ltz a) (row - 1)) (pr (ltz a) (ltz b) row (col - 1) + 2)) (pr (ltz a) (ltz b) (row - 1) (col - 1) + repp (ltz a (row - 1)) (ltz b (col - 1)))) (pr (ltz a) (ltz b) (row - 2) (col - 2) + 1)), rfl, (by obtain ⟨i, rfl⟩ : ∃ k, row = k + 1 := ⟨row - 1, by omega⟩; obtain ⟨j, rfl⟩ : ∃ k, col = k + 1 := ⟨col - 1, by omega⟩; rw [pr_ss]; exact congrArg nI (if_pos ⟨by omega, by omega, c_121.1, c_121.2.1, c_121.2.2⟩).symm), ht⟩) (fun _ h => absurd h List.not_mem_nil) dX1_leastPrice_149
  · skip
    refine lv_iload hx hb dX1_leastPrice_4 (lv_at hl 4 rfl) ?_
    refine lv_iconst (v := nI 2) hx hb dX1_leastPrice_6 (by decide) ?_
    refine q_imul (d := 2 * col) hx hb dX1_leastPrice_7 (by omega) ?_
    exact W.iret (v := nI (2 * col)) hx hb hr (fun t9 ht _ => ⟨nI (2 * col), rfl, (by rw [c_1, pr_0]), ht⟩) (fun _ h => absurd h List.not_mem_nil) dX1_leastPrice_8

set_option maxRecDepth 20000 in
theorem iX1_cheapest_X1 : ∀ w ∈ wsX10, w ∈ wsX1_cheapest := by decide +kernel
set_option maxRecDepth 20000 in
theorem iX1_cheapest_X8 : ∀ w ∈ wsX80, w ∈ wsX1_cheapest := by decide +kernel
set_option maxHeartbeats 4000000 in
set_option maxRecDepth 100000 in
/-- Gauge.cheapest -/
theorem c_X1_cheapest (l : Launch) (D : va_G) (sz : Nat) (g : Nat) (gr : Nat) (ce : Nat) (cG : ClassId) (f : Nat → Int32) (w : Nat) (v : Nat) (a : Nat) (b : Nat) (hnd : ([ce] ++ [g, gr, w, v]).Nodup) (hga : gw a) (hgb : gw b) : Met l yX1_cheapest wsX1_cheapest { frames := 4, cells := 0, slots := 0, locals := 91 } (va_Pc [.ref g, .ref w, .ref v] (qWz D sz ([(g, .inr (1, [.ref gr])), (gr, .inr (2, [.ref ce])), (w, .inr (7, [.long (lN a), .int (nI (wl a)), .long (lN (al a))])), (v, .inr (7, [.long (lN b), .int (nI (wl b)), .long (lN (al b))]))]) [(ce, .inl (cG, 121, .inl f))] [(cG, .int)])) (va_Qi (fun (rv : Int32) (uv : (Nat → Int32)) => rv = nI (pr (ltz a) (ltz b) (wl a) (wl b))) (fun (uv : (Nat → Int32)) (tv : State) => va_P D vwCl [(ce, .inl (cG, 121, .inl uv))] tv.heap) (va_A [(ce, .inl (cG, 121, .inl f))] sz)) 0 0 (va_A [(ce, .inl (cG, 121, .inl f))] sz) := by
  refine Met.ofW (cc := cX1_cheapest) (maxL := 5) (ret := (some .int)) (by decide) rfl ?_
  intro pM eM s mi9 argsM belowM methM cM sM B hml hv
  obtain ⟨rfl, hsz, hR0, hP, hK, hNw, hZ⟩ := hv
  have hx := B.exec
  have hb := B.bytes
  have hr := B.returns
  have hts := atoms_spec (ws := wsX1_cheapest) B.pre
  have hown : s.vm.findClass RX1 = some mi9.cls := findClass_of_methodNamed B.named
  have hlocks := B.notSynchronized
  subst hsz
  have hna := q_na (RW := [(ce, .inl (cG, 121, .inl f))]) (RO := [(g, .inr (1, [.ref gr])), (gr, .inr (2, [.ref ce])), (w, .inr (7, [.long (lN a), .int (nI (wl a)), .long (lN (al a))])), (v, .inr (7, [.long (lN b), .int (nI (wl b)), .long (lN (al b))]))]) hnd rfl rfl hR0
  have hD := q_D (RW := [(ce, .inl (cG, 121, .inl f))]) (sz := s.heap.size) hnd rfl
  have hA : ∀ q : Nat, s.heap.size ≤ q → va_A [(ce, .inl (cG, 121, .inl f))] s.heap.size q := fun q h => Or.inr h
  generalize hAe : va_A [(ce, .inl (cG, 121, .inl f))] s.heap.size = A at hna hD hA hZ ⊢
  have hS : va_S A s.heap s.heap [] := va_S.rf
  have hR := hR0
  have hP : va_P D vwCl [(ce, .inl (cG, 121, .inl f))] s.heap := hP
  have hl := lv_entry ([.ref g, .ref w, .ref v]) (n := 5) (Nat.le_of_ble_eq_true rfl)
  rw [lg_entry_eq]
  generalize (lg_sl ([.ref g, .ref w, .ref v]) ++ List.replicate (5 - (lg_sl ([.ref g, .ref w, .ref v])).length) Slot.unset).toArray = ls at hl ⊢
  have hl : lv_has ls 5 [(0, .ref g), (1, .ref w), (2, .ref v)] := hl
  have hwa := gw_wl hga
  have hwb := gw_wl hgb
  refine lv_iconst (v := nI 0) hx hb dX1_cheapest_0 (by decide) ?_
  refine lv_istore_n (lv' := [(3, .int (nI 0)), (0, .ref g), (1, .ref w), (2, .ref v)]) hx hb dX1_cheapest_1 rfl hl (by decide) rfl (fun ls hl => ?_)
  refine q_loop (fun (x : (Nat) × (Nat → Int32)) (H : Heap) (locs : List Loc) (ls : Array Slot) => match x with | (row, f1) => (row ≤ wl a + 1) ∧ (∀ i j, j ≤ wl b → i < row → f1 (11 * i + j) = nI (pr (ltz a) (ltz b) i j)) ∧ va_P D vwCl [(ce, .inl (cG, 121, .inl f1))] H ∧ va_D A [(ce, .inl (cG, 121, .inl f1))] ∧ va_S A s.heap H locs ∧ lv_has ls 5 [(3, .int (nI row)), (0, .ref g), (1, .ref w), (2, .ref v)]) (fun (x : (Nat) × (Nat → Int32)) => match x with | (row, f1) => wl a + 1 - row) (0, f) ⟨(by omega), (fun i j _ h => by omega), hP, hD, hS, (lv_sub hl [0, 1, 2, 3] rfl)⟩ ?_
  clear hl
  clear hP hD hS
  rintro ⟨row, f1⟩ H locs ls hI ih_2
  obtain ⟨hrr, hrow, hP, hD, hS, hl⟩ := hI
  have hR := q_ro hR0 hna hS
  refine lv_iload_n hx hb dX1_cheapest_2 rfl (lv_at hl 0 rfl) ?_
  refine lv_aload_n hx hb dX1_cheapest_3 rfl (lv_at hl 2 rfl) ?_
  refine va_getN (host := "FuzzyFens") (D := D) (own := RX1) (ref := "FuzzyFens$Word") (ci := 7) (v := .int (nI (wl a))) (C := RX8) (T := TX8) (N := 3) hx hb hts iX1_cheapest_X8 hown hK hR 2 rfl rfl 1 (by decide) (va_Nw.use rfl (hNw.1 ("FuzzyFens$Gauge", 20, "FuzzyFens$Word", "length", "I") (List.mem_of_getElem? (i := 2) rfl))) (fun _ h9 => h9) rfl dX1_cheapest_4 ?_
  refine q_icmp_gt (a := row) (b := wl a) (tgt := 53) hx hb dX1_cheapest_7 (by decide) (by omega) (by omega) (fun c_7 => ?_) (fun c_7 => ?_)
  · skip
    refine lv_aload_n hx hb dX1_cheapest_53 rfl (lv_at hl 1 rfl) ?_
    refine va_get (D := D) (own := RX1) (ref := "FuzzyFens$Gauge") (ci := 1) (v := .ref gr) (C := RX1) (T := TX1) (N := 1) hx hb hts iX1_cheapest_X1 hown hK hR 0 rfl rfl 0 (by decide) (hts (.fieldLink RX1 10 "FuzzyFens$Gauge" "grid" "LFuzzyFens$Grid;") (List.mem_of_getElem? (i := 1) rfl)) (fun _ h9 => h9) rfl dX1_cheapest_54 ?_
    refine lv_aload_n hx hb dX1_cheapest_57 rfl (lv_at hl 2 rfl) ?_
    refine va_getN (host := "FuzzyFens") (D := D) (own := RX1) (ref := "FuzzyFens$Word") (ci := 7) (v := .int (nI (wl a))) (C := RX8) (T := TX8) (N := 3) hx hb hts iX1_cheapest_X8 hown hK hR 2 rfl rfl 1 (by decide) (va_Nw.use rfl (hNw.1 ("FuzzyFens$Gauge", 20, "FuzzyFens$Word", "length", "I") (List.mem_of_getElem? (i := 2) rfl))) (fun _ h9 => h9) rfl dX1_cheapest_58 ?_
    refine lv_aload_n hx hb dX1_cheapest_61 rfl (lv_at hl 3 rfl) ?_
    refine va_getN (host := "FuzzyFens") (D := D) (own := RX1) (ref := "FuzzyFens$Word") (ci := 7) (v := .int (nI (wl b))) (C := RX8) (T := TX8) (N := 3) hx hb hts iX1_cheapest_X8 hown hK hR 3 rfl rfl 1 (by decide) (va_Nw.use rfl (hNw.1 ("FuzzyFens$Gauge", 20, "FuzzyFens$Word", "length", "I") (List.mem_of_getElem? (i := 2) rfl))) (fun _ h9 => h9) rfl dX1_cheapest_62 ?_
    refine vp_callSi (W.runV (As := [.int (nI (wl a)), .int (nI (wl b))]) (rest := []) ⟨hx, hb, hml, hown, hts⟩ (c_X2_at (l := l) (D := D) (g := gr) (ce := ce) (cA := cG) (f := f1) (r := wl a) (k := wl b) (hr1 := by omega) (hk1 := by omega)) (cwV 2 hts gX1_cheapest_X2_at rfl rfl rfl (by decide +kernel) ⟨Nat.le_of_ble_eq_true rfl, Nat.le_of_ble_eq_true rfl⟩) ⟨qP_blind, (va_recv hK hR (ci := 2) (q0 := 1) rfl rfl), (qP_of (show va_P D vwCl [(gr, .inr (2, [.ref ce])), (ce, .inl (cG, 121, .inl f1))] _ from (va_P.app (hR.sub (ws' := [(gr, .inr (2, [.ref ce]))]) [1] rfl) (hP.sub (ws' := [(ce, .inl (cG, 121, .inl f1))]) [0] rfl))) (hK.sub (tys' := [(cG, .int)]) [0] rfl) hNw)⟩ rfl rfl hl.1 rfl (lv_room (Nat.le_of_ble_eq_true rfl)) dX1_cheapest_65 ⟨Nat.le_of_ble_eq_true rfl, Nat.le_of_ble_eq_true rfl⟩) (fun r_1 hr_1 => ?_)
    subst hr_1
    exact W.iret (v := f1 (11 * (wl a) + (wl b))) hx hb hr (fun t9 ht hW => ⟨⟨f1 (11 * (wl a) + (wl b)), f1, rfl, (hrow _ _ (Nat.le_refl _) (by omega)), by show va_P D vwCl _ t9.heap; rw [ht]; exact hP⟩, hS.F ht⟩) hS.2.2 dX1_cheapest_68
  · skip
    refine lv_iconst (v := nI 0) hx hb dX1_cheapest_10 (by decide) ?_
    refine lv_istore (lv' := [(4, .int (nI 0)), (3, .int (nI row)), (0, .ref g), (1, .ref w), (2, .ref v)]) hx hb dX1_cheapest_11 hl (by decide) rfl (fun ls hl => ?_)
    refine q_loop (fun (x : (Nat) × (Nat → Int32)) (H : Heap) (locs : List Loc) (ls : Array Slot) => match x with | (col, f4) => (col ≤ wl b + 1) ∧ (∀ i j, j ≤ wl b → i < row ∨ (i = row ∧ j < col) → f4 (11 * i + j) = nI (pr (ltz a) (ltz b) i j)) ∧ va_P D vwCl [(ce, .inl (cG, 121, .inl f4))] H ∧ va_D A [(ce, .inl (cG, 121, .inl f4))] ∧ va_S A s.heap H locs ∧ lv_has ls 5 [(4, .int (nI col)), (3, .int (nI row)), (0, .ref g), (1, .ref w), (2, .ref v)]) (fun (x : (Nat) × (Nat → Int32)) => match x with | (col, f4) => wl b + 1 - col) (0, f1) ⟨(by omega), (fun i j hj h => hrow i j hj (by omega)), hP, hD, hS, (lv_sub hl [0, 1, 2, 3, 4] rfl)⟩ ?_
    clear hl
    clear hP hD hS
    rintro ⟨col, f4⟩ H locs ls hI ih_13
    obtain ⟨hc, hcell, hP, hD, hS, hl⟩ := hI
    have hR := q_ro hR0 hna hS
    refine lv_iload hx hb dX1_cheapest_13 (lv_at hl 0 rfl) ?_
    refine lv_aload_n hx hb dX1_cheapest_15 rfl (lv_at hl 4 rfl) ?_
    refine va_getN (host := "FuzzyFens") (D := D) (own := RX1) (ref := "FuzzyFens$Word") (ci := 7) (v := .int (nI (wl b))) (C := RX8) (T := TX8) (N := 3) hx hb hts iX1_cheapest_X8 hown hK hR 3 rfl rfl 1 (by decide) (va_Nw.use rfl (hNw.1 ("FuzzyFens$Gauge", 20, "FuzzyFens$Word", "length", "I") (List.mem_of_getElem? (i := 2) rfl))) (fun _ h9 => h9) rfl dX1_cheapest_16 ?_
    refine q_icmp_gt (a := col) (b := wl b) (tgt := 47) hx hb dX1_cheapest_19 (by decide) (by omega) (by omega) (fun c_19 => ?_) (fun c_19 => ?_)
    · skip
      refine lv_iinc (v := nI (row + 1)) (lv' := [(3, .int (nI (row + 1))), (4, .int (nI col)), (0, .ref g), (1, .ref w), (2, .ref v)]) hx hb dX1_cheapest_47 hl (k := 1) rfl (q_inc (k := 1) (by omega)) (by decide) rfl (fun ls hl => ?_)
      refine lv_goto (tgt := 2) hx hb dX1_cheapest_50 (by decide) ?_
      exact ih_2 (row + 1, f4) _ _ _ ⟨(by omega), (fun i j hj hi => hcell i j hj (by omega)), hP, hD, hS, (lv_sub hl [0, 2, 3, 4] rfl)⟩ (by show wl a + 1 - (row + 1) < wl a + 1 - row; omega)
    · skip
      refine lv_aload_n hx hb dX1_cheapest_22 rfl (lv_at hl 2 rfl) ?_
      refine va_get (D := D) (own := RX1) (ref := "FuzzyFens$Gauge") (ci := 1) (v := .ref gr) (C := RX1) (T := TX1) (N := 1) hx hb hts iX1_cheapest_X1 hown hK hR 0 rfl rfl 0 (by decide) (hts (.fieldLink RX1 10 "FuzzyFens$Gauge" "grid" "LFuzzyFens$Grid;") (List.mem_of_getElem? (i := 1) rfl)) (fun _ h9 => h9) rfl dX1_cheapest_23 ?_
      refine lv_iload_n hx hb dX1_cheapest_26 rfl (lv_at hl 1 rfl) ?_
      refine lv_iload hx hb dX1_cheapest_27 (lv_at hl 0 rfl) ?_
      refine lv_aload_n hx hb dX1_cheapest_29 rfl (lv_at hl 2 rfl) ?_
      refine lv_aload_n hx hb dX1_cheapest_30 rfl (lv_at hl 3 rfl) ?_
      refine lv_aload_n hx hb dX1_cheapest_31 rfl (lv_at hl 4 rfl) ?_
      refine lv_iload_n hx hb dX1_cheapest_32 rfl (lv_at hl 1 rfl) ?_
      refine lv_iload hx hb dX1_cheapest_33 (lv_at hl 0 rfl) ?_
      refine vp_callSi (W.runV (As := [.ref w, .ref v, .int (nI row), .int (nI col)]) (rest := [.int (nI col), .int (nI row), .ref gr]) ⟨hx, hb, hml, hown, hts⟩ (c_X1_leastPrice (l := l) (D := D) (g := g) (gr := gr) (ce := ce) (cG := cG) (f := f4) (w := w) (v := v) (a := a) (b := b) (row := row) (col := col) (hga := hga) (hgb := hgb) (hrw := by omega) (hcl := by omega) (hL := hcell)) (cwV 4 hts gX1_cheapest_X1_leastPrice rfl rfl rfl (by decide +kernel) ⟨Nat.le_of_ble_eq_true rfl, Nat.le_of_ble_eq_true rfl⟩) ⟨qPz_blind, (va_recv hK hR (ci := 1) (q0 := 0) rfl rfl), (qPz_of (show va_P D vwCl [(g, .inr (1, [.ref gr])), (gr, .inr (2, [.ref ce])), (ce, .inl (cG, 121, .inl f4)), (w, .inr (7, [.long (lN a), .int (nI (wl a)), .long (lN (al a))])), (v, .inr (7, [.long (lN b), .int (nI (wl b)), .long (lN (al b))]))] _ from (va_P.app (hR.sub (ws' := [(g, .inr (1, [.ref gr]))]) [0] rfl) (va_P.app (hR.sub (ws' := [(gr, .inr (2, [.ref ce]))]) [1] rfl) (va_P.app (hP.sub (ws' := [(ce, .inl (cG, 121, .inl f4))]) [0] rfl) (va_P.app (hR.sub (ws' := [(w, .inr (7, [.long (lN a), .int (nI (wl a)), .long (lN (al a))]))]) [2] rfl) (hR.sub (ws' := [(v, .inr (7, [.long (lN b), .int (nI (wl b)), .long (lN (al b))]))]) [3] rfl)))))) (hK.sub (tys' := [(cG, .int)]) [0] rfl) hNw (qZ_at hZ hS (fun _ h => h.elim)))⟩ rfl rfl hl.1 rfl (lv_room (Nat.le_of_ble_eq_true rfl)) dX1_cheapest_35 ⟨Nat.le_of_ble_eq_true rfl, Nat.le_of_ble_eq_true rfl⟩) (fun r_2 hr_2 => ?_)
      subst hr_2
      have hF := va_free (wc := [(ce, .inl (cG, 121, .inl f4))]) hD hS hA [0] rfl
      refine va_callv (va_runV (As := [.int (nI row), .int (nI col), .int (nI (pr (ltz a) (ltz b) row col))]) (rest := []) ⟨hx, hb, hml, hown, hts⟩ (c_X2_put (l := l) (D := D) (g := gr) (ce := ce) (cA := cG) (f := f4) (r := row) (k := col) (v := nI (pr (ltz a) (ltz b) row col)) (sz := H.size) (hnd := (q_nds hnd [0, 2] rfl rfl)) (hr1 := by omega) (hk1 := by omega)) (cwV 3 hts gX1_cheapest_X2_put rfl rfl rfl (by decide +kernel) ⟨Nat.le_of_ble_eq_true rfl, Nat.le_of_ble_eq_true rfl⟩) ⟨qW_blind, (va_recv hK hR (ci := 2) (q0 := 1) rfl rfl), (qW_of (hR.sub (ws' := [(gr, .inr (2, [.ref ce]))]) [1] rfl) (hP.sub (ws' := [(ce, .inl (cG, 121, .inl f4))]) [0] rfl) (hK.sub (tys' := [(cG, .int)]) [0] rfl) hNw)⟩ rfl rfl hl.1 rfl (lv_room (Nat.le_of_ble_eq_true rfl)) dX1_cheapest_38 ⟨Nat.le_of_ble_eq_true rfl, Nat.le_of_ble_eq_true rfl⟩) hS (fun q _ h => hF q h) hF (fun u_7 t_6 H_4 locs_5 ht hvm hr_3 hB hz1 hk1 hS => ?_)
      replace hB : va_P D vwCl [(ce, .inl (cG, 121, .inl (upd f4 (11 * row + col) (nI (pr (ltz a) (ltz b) row col)))))] H_4 := by rw [← ht]; exact hB
      obtain ⟨hP, hD⟩ := q_join (wc := [(ce, .inl (cG, 121, .inl f4))]) (w1 := [(ce, .inl (cG, 121, .inl (upd f4 (11 * row + col) (nI (pr (ltz a) (ltz b) row col)))))]) (ws' := [(ce, .inl (cG, 121, .inl (upd f4 (11 * row + col) (nI (pr (ltz a) (ltz b) row col)))))]) [0] hP hD rfl rfl hk1 hB rfl
      have hR := q_ro hR0 hna hS
      refine lv_iinc (v := nI (col + 1)) (lv' := [(4, .int (nI (col + 1))), (3, .int (nI row)), (0, .ref g), (1, .ref w), (2, .ref v)]) hx hb dX1_cheapest_41 hl (k := 0) rfl (q_inc (k := 1) (by omega)) (by decide) rfl (fun ls hl => ?_)
      refine lv_goto (tgt := 13) hx hb dX1_cheapest_44 (by decide) ?_
      exact ih_13 (col + 1, upd f4 (11 * row + col) (nI (pr (ltz a) (ltz b) row col))) _ _ _ ⟨(by omega), (by intro i j hj h; by_cases e : i = row ∧ j = col; (rw [e.1, e.2]; exact pk_us); (rw [pk_un (by omega)]; exact hcell i j hj (by omega))), hP, hD, hS, (lv_sub hl [0, 1, 2, 3, 4] rfl)⟩ (by show wl b + 1 - (col + 1) < wl b + 1 - col; omega)
