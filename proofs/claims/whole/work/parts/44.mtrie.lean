set_option maxRecDepth 20000 in
theorem iX10_isFirstWith_X10 : ∀ w ∈ wsX100, w ∈ wsX10_isFirstWith := by decide +kernel
set_option maxHeartbeats 4000000 in
set_option maxRecDepth 100000 in
/-- isFirstWith -/
theorem c_X10_isFirstWith (l : Launch) (D : va_G) (mo : Nat) (mw : Nat) (mct : Nat) (mp : Nat) (mnm : Nat) (m1 : Nat) (m2 : Nat) (mt : Nat) (mk : Nat) (mr : Nat) (ml : Nat) (mq : Nat) (k1 : ClassId) (k2 : ClassId) (th : Int32) (n : Nat) (om : Int32) (tm : Int32) (wd : Nat → Nat) (ct : Nat → Nat) (i : Nat) (k : Nat) (hn40 : n ≤ 40) (hgw : ∀ k, k < n → gw (wd k)) (hcb : ∀ k, k < n → ct k < 2 ^ 31) (hi : i < n) (hk10 : k ≤ 10) : Met l yX10_isFirstWith wsX10_isFirstWith { frames := 2, cells := 0, slots := 0, locals := 49 } (va_Pc [.ref mo, .int (nI i), .int (nI k)] (qP D ([(mo, .inr (9, [.int th, .int (nI n), .ref mw, .ref mct, .ref mp, .ref mnm, .ref m1, .ref m2, .int om, .int tm, .ref mt, .ref mk, .ref mr, .ref ml, .ref mq])), (mw, .inl (k1, 40, .inr (.inl (fun k9 => lN (wd k9))))), (mct, .inl (k2, 40, .inl (fun k9 => nI (ct k9))))]) [(k1, .long), (k2, .int)])) (vp_Si (fun rv : Int32 => rv = (if fwd1 wd ct i k then 1 else 0))) 0 0 (fun _ => False) := by
  refine Met.ofW (cc := cX10_isFirstWith) (maxL := 6) (ret := (some .boolean)) (by decide) rfl ?_
  intro pM eM s mi9 argsM belowM methM cM sM B hml hv
  obtain ⟨rfl, hR, hK, hNw⟩ := hv
  have hx := B.exec
  have hb := B.bytes
  have hr := B.returns
  have hts := atoms_spec (ws := wsX10_isFirstWith) B.pre
  have hown : s.vm.findClass RX10 = some mi9.cls := findClass_of_methodNamed B.named
  have hlocks := B.notSynchronized
  have hS : va_S (fun _ => False) s.heap s.heap [] := va_S.rf
  have hR : va_P D vwCl ([(mo, .inr (9, [.int th, .int (nI n), .ref mw, .ref mct, .ref mp, .ref mnm, .ref m1, .ref m2, .int om, .int tm, .ref mt, .ref mk, .ref mr, .ref ml, .ref mq])), (mw, .inl (k1, 40, .inr (.inl (fun k9 => lN (wd k9))))), (mct, .inl (k2, 40, .inl (fun k9 => nI (ct k9))))]) s.heap := hR
  have hl := lv_entry ([.ref mo, .int (nI i), .int (nI k)]) (n := 6) (Nat.le_of_ble_eq_true rfl)
  rw [lg_entry_eq]
  generalize (lg_sl ([.ref mo, .int (nI i), .int (nI k)]) ++ List.replicate (6 - (lg_sl ([.ref mo, .int (nI i), .int (nI k)])).length) Slot.unset).toArray = ls at hl ⊢
  have hl : lv_has ls 6 [(0, .ref mo), (1, .int (nI i)), (2, .int (nI k))] := hl
  have hwi := gw_wl (hgw i hi)
  have hli := gw_lt (hgw i hi)
  refine lv_aload_n hx hb dX10_isFirstWith_0 rfl (lv_at hl 0 rfl) ?_
  refine va_get (D := D) (own := RX10) (ref := "FuzzyFensModel") (ci := 9) (v := .ref mct) (C := RX10) (T := TX10) (N := 15) hx hb hts iX10_isFirstWith_X10 hown hK hR 0 rfl rfl 3 (by decide) (hts (.fieldLink RX10 13 "FuzzyFensModel" "counts" "[I") (List.mem_of_getElem? (i := 1) rfl)) (fun _ h9 => h9) rfl dX10_isFirstWith_1 ?_
  refine lv_iload_n hx hb dX10_isFirstWith_4 rfl (lv_at hl 1 rfl) ?_
  refine va_iald (D := D) hx hb hK hR 2 1 rfl rfl (vp_in_nI (n := i) (N := 40) (by omega) (by decide)) dX10_isFirstWith_5 ?_
  rw [nI_clamp (n := i) (by omega)]
  refine q_cvi (show (fun k9 => nI (ct k9)) i = nI (ct i) from rfl) ?_
  refine q_cut 27 (fun (x : (Nat)) (Hc : Heap) (Lc : List Loc) (ls : Array Slot) (st : List Value) => match x with | b => (b ≤ 1) ∧ (b = 1 ↔ (0 < ct i ∧ k ≤ wl (wd i))) ∧ s.heap = Hc ∧ [] = Lc ∧ lv_has ls 6 [(0, .ref mo), (1, .int (nI i)), (2, .int (nI k))] ∧ [.int (nI b)] = st) ?_ ?_
  · clear hl
    rintro b Hc Lc ls st hI
    obtain ⟨hb1, hbv, rfl, rfl, hl, rfl⟩ := hI
    refine lv_istore_n (lv' := [(3, .int (nI b)), (0, .ref mo), (1, .int (nI i)), (2, .int (nI k))]) hx hb dX10_isFirstWith_27 rfl hl (by decide) rfl (fun ls hl => ?_)
    refine lv_iconst (v := nI 0) hx hb dX10_isFirstWith_28 (by decide) ?_
    refine lv_istore (lv' := [(4, .int (nI 0)), (3, .int (nI b)), (0, .ref mo), (1, .int (nI i)), (2, .int (nI k))]) hx hb dX10_isFirstWith_29 hl (by decide) rfl (fun ls hl => ?_)
    refine q_loop (fun (x : (Nat) × (Nat)) (Hc : Heap) (Lc : List Loc) (ls : Array Slot) => match x with | (j, b) => (j ≤ i) ∧ (b ≤ 1) ∧ (b = 1 ↔ ((0 < ct i ∧ k ≤ wl (wd i)) ∧ ∀ j9, j9 < j → ¬ (0 < ct j9 ∧ k ≤ wl (wd j9) ∧ beg (wd j9) k = beg (wd i) k))) ∧ s.heap = Hc ∧ [] = Lc ∧ lv_has ls 6 [(4, .int (nI j)), (3, .int (nI b)), (0, .ref mo), (1, .int (nI i)), (2, .int (nI k))]) (fun (x : (Nat) × (Nat)) => match x with | (j, b) => i - j) (0, b) ⟨(by omega), hb1, (by rw [hbv]; exact ⟨fun h9 => ⟨h9, fun j9 h8 => by omega⟩, fun h9 => h9.1⟩), rfl, rfl, (lv_sub hl [0, 1, 2, 3, 4] rfl)⟩ ?_
    clear hl
    rintro ⟨j, b⟩ Hc Lc ls hI ih_31
    obtain ⟨hj, hb1, hbv, rfl, rfl, hl⟩ := hI
    refine lv_iload hx hb dX10_isFirstWith_31 (lv_at hl 0 rfl) ?_
    refine lv_iload_n hx hb dX10_isFirstWith_33 rfl (lv_at hl 3 rfl) ?_
    refine q_icmp_ge (a := j) (b := i) (tgt := 114) hx hb dX10_isFirstWith_34 (by decide) (by omega) (by omega) (fun c_34 => ?_) (fun c_34 => ?_)
    · skip
      refine lv_iload_n hx hb dX10_isFirstWith_114 rfl (lv_at hl 1 rfl) ?_
      have eji : j = i := by omega
      rw [eji] at hbv
      exact W.zret (v := nI b) hx hb hr (by rcases (show b = 0 ∨ b = 1 by omega) with h8 | h8 <;> rw [h8] <;> rfl) (fun t9 ht _ => ⟨nI b, rfl, (by by_cases h8 : b = 1; (rw [if_pos (hbv.mp h8), h8]; rfl); (rw [if_neg (fun h => h8 (hbv.mpr h)), show b = 0 by omega]; rfl)), ht⟩) (fun _ h => absurd h List.not_mem_nil) dX10_isFirstWith_115
    · skip
      refine lv_aload_n hx hb dX10_isFirstWith_37 rfl (lv_at hl 2 rfl) ?_
      refine va_get (D := D) (own := RX10) (ref := "FuzzyFensModel") (ci := 9) (v := .ref mct) (C := RX10) (T := TX10) (N := 15) hx hb hts iX10_isFirstWith_X10 hown hK hR 0 rfl rfl 3 (by decide) (hts (.fieldLink RX10 13 "FuzzyFensModel" "counts" "[I") (List.mem_of_getElem? (i := 1) rfl)) (fun _ h9 => h9) rfl dX10_isFirstWith_38 ?_
      refine lv_iload hx hb dX10_isFirstWith_41 (lv_at hl 0 rfl) ?_
      refine va_iald (D := D) hx hb hK hR 2 1 rfl rfl (vp_in_nI (n := j) (N := 40) (by omega) (by decide)) dX10_isFirstWith_43 ?_
      rw [nI_clamp (n := j) (by omega)]
      refine q_cvi (show (fun k9 => nI (ct k9)) j = nI (ct j) from rfl) ?_
      have hwj := gw_wl (hgw j (by omega))
      have hlj := gw_lt (hgw j (by omega))
      refine q_cut 66 (fun (x : (Nat)) (Hc : Heap) (Lc : List Loc) (ls : Array Slot) (st : List Value) => match x with | hs => (hs ≤ 1) ∧ (hs = 1 ↔ (0 < ct j ∧ k ≤ wl (wd j))) ∧ s.heap = Hc ∧ [] = Lc ∧ lv_has ls 6 [(4, .int (nI j)), (3, .int (nI b)), (0, .ref mo), (1, .int (nI i)), (2, .int (nI k))] ∧ [.int (nI hs)] = st) ?_ ?_
      · clear hl
        rintro hs Hc Lc ls st hI
        obtain ⟨hs1, hsv, rfl, rfl, hl, rfl⟩ := hI
        refine lv_istore (lv' := [(5, .int (nI hs)), (4, .int (nI j)), (3, .int (nI b)), (0, .ref mo), (1, .int (nI i)), (2, .int (nI k))]) hx hb dX10_isFirstWith_66 hl (by decide) rfl (fun ls hl => ?_)
        refine lv_iload_n hx hb dX10_isFirstWith_68 rfl (lv_at hl 2 rfl) ?_
        refine q_cut 107 (fun (x : (Nat)) (Hc : Heap) (Lc : List Loc) (ls : Array Slot) (st : List Value) => match x with | b2 => (b2 ≤ 1) ∧ ((b2 = 1 ↔ (b = 1 ∧ ¬ (0 < ct j ∧ k ≤ wl (wd j) ∧ beg (wd j) k = beg (wd i) k)))) ∧ s.heap = Hc ∧ [] = Lc ∧ lv_has ls 6 [(5, .int (nI hs)), (4, .int (nI j)), (3, .int (nI b)), (0, .ref mo), (1, .int (nI i)), (2, .int (nI k))] ∧ [.int (nI b2)] = st) ?_ ?_
        · clear hl
          rintro b2 Hc Lc ls st hI
          obtain ⟨h3, hhv, rfl, rfl, hl, rfl⟩ := hI
          refine lv_istore_n (lv' := [(3, .int (nI b2)), (5, .int (nI hs)), (4, .int (nI j)), (0, .ref mo), (1, .int (nI i)), (2, .int (nI k))]) hx hb dX10_isFirstWith_107 rfl hl (by decide) rfl (fun ls hl => ?_)
          refine lv_iinc (v := nI (j + 1)) (lv' := [(4, .int (nI (j + 1))), (3, .int (nI b2)), (5, .int (nI hs)), (0, .ref mo), (1, .int (nI i)), (2, .int (nI k))]) hx hb dX10_isFirstWith_108 hl (k := 2) rfl (q_inc (k := 1) (by omega)) (by decide) rfl (fun ls hl => ?_)
          refine lv_goto (tgt := 31) hx hb dX10_isFirstWith_111 (by decide) ?_
          exact ih_31 (j + 1, b2) _ _ _ ⟨(by omega), h3, (by rw [hhv, hbv]; constructor; (rintro ⟨⟨h9, h8⟩, h7⟩; refine ⟨h9, fun j9 hj9 => ?_⟩; by_cases e : j9 = j; (rw [e]; exact h7); (exact h8 j9 (by omega))); (rintro ⟨h9, h8⟩; exact ⟨⟨h9, fun j9 hj9 => h8 j9 (by omega)⟩, h8 j (by omega)⟩)), rfl, rfl, (lv_sub hl [0, 1, 3, 4, 5] rfl)⟩ (by show i - (j + 1) < i - j; omega)
        · intro hcut_107
          refine q_if_eq (a := b) (tgt := 106) hx hb dX10_isFirstWith_69 (by decide) (by omega) (fun c_69 => ?_) (fun c_69 => ?_)
          · skip
            refine lv_iconst (v := nI 0) hx hb dX10_isFirstWith_106 (by decide) ?_
            exact hcut_107 0 _ _ _ _ ⟨(by omega), (by omega), rfl, rfl, (lv_sub hl [0, 1, 2, 3, 4, 5] rfl), rfl⟩
          · skip
            refine lv_iload hx hb dX10_isFirstWith_72 (lv_at hl 0 rfl) ?_
            refine q_if_eq (a := hs) (tgt := 102) hx hb dX10_isFirstWith_74 (by decide) (by omega) (fun c_74 => ?_) (fun c_74 => ?_)
            · skip
              refine lv_iconst (v := nI 1) hx hb dX10_isFirstWith_102 (by decide) ?_
              refine lv_goto (tgt := 107) hx hb dX10_isFirstWith_103 (by decide) ?_
              exact hcut_107 1 _ _ _ _ ⟨(by omega), (by omega), rfl, rfl, (lv_sub hl [0, 1, 2, 3, 4, 5] rfl), rfl⟩
            · skip
              refine lv_aload_n hx hb dX10_isFirstWith_77 rfl (lv_at hl 3 rfl) ?_
              refine va_get (D := D) (own := RX10) (ref := "FuzzyFensModel") (ci := 9) (v := .ref mw) (C := RX10) (T := TX10) (N := 15) hx hb hts iX10_isFirstWith_X10 hown hK hR 0 rfl rfl 2 (by decide) (hts (.fieldLink RX10 7 "FuzzyFensModel" "words" "[J") (List.mem_of_getElem? (i := 2) rfl)) (fun _ h9 => h9) rfl dX10_isFirstWith_78 ?_
              refine lv_iload hx hb dX10_isFirstWith_81 (lv_at hl 1 rfl) ?_
              refine va_lald (D := D) hx hb hK hR 1 0 rfl rfl (vp_in_nI (n := j) (N := 40) (by omega) (by decide)) dX10_isFirstWith_83 ?_
              rw [nI_clamp (n := j) (by omega)]
              refine q_cvl (show (fun k9 => lN (wd k9)) j = lN (wd j) from rfl) ?_
              refine lv_iload_n hx hb dX10_isFirstWith_84 rfl (lv_at hl 5 rfl) ?_
              refine vp_callSl (W.runS (As := [.long (lN (wd j)), .int (nI k)]) (rest := []) ⟨hx, hb, hml, hown, hts⟩ (c_X10_beginning (l := l) (D := D) (a := wd j) (k := k) (ha := by omega) (hw := by omega) (hk := by omega)) (va_cwS 2 hts gX10_isFirstWith_X10_beginning rfl rfl rfl (by decide +kernel) ⟨Nat.le_of_ble_eq_true rfl, Nat.le_of_ble_eq_true rfl⟩) ⟨qP_blind, (qP_of (q_Pof (fun _ h => absurd h List.not_mem_nil)) (hK.sub (tys' := []) [] rfl) hNw)⟩ rfl rfl hl.1 rfl (lv_room (Nat.le_of_ble_eq_true rfl)) dX10_isFirstWith_85 ⟨Nat.le_of_ble_eq_true rfl, Nat.le_of_ble_eq_true rfl⟩) (fun r_1 hr_1 => ?_)
              subst hr_1
              refine lv_aload_n hx hb dX10_isFirstWith_88 rfl (lv_at hl 3 rfl) ?_
              refine va_get (D := D) (own := RX10) (ref := "FuzzyFensModel") (ci := 9) (v := .ref mw) (C := RX10) (T := TX10) (N := 15) hx hb hts iX10_isFirstWith_X10 hown hK hR 0 rfl rfl 2 (by decide) (hts (.fieldLink RX10 7 "FuzzyFensModel" "words" "[J") (List.mem_of_getElem? (i := 2) rfl)) (fun _ h9 => h9) rfl dX10_isFirstWith_89 ?_
              refine lv_iload_n hx hb dX10_isFirstWith_92 rfl (lv_at hl 4 rfl) ?_
              refine va_lald (D := D) hx hb hK hR 1 0 rfl rfl (vp_in_nI (n := i) (N := 40) (by omega) (by decide)) dX10_isFirstWith_93 ?_
              rw [nI_clamp (n := i) (by omega)]
              refine q_cvl (show (fun k9 => lN (wd k9)) i = lN (wd i) from rfl) ?_
              refine lv_iload_n hx hb dX10_isFirstWith_94 rfl (lv_at hl 5 rfl) ?_
              refine vp_callSl (W.runS (As := [.long (lN (wd i)), .int (nI k)]) (rest := [.long (lN (beg (wd j) k))]) ⟨hx, hb, hml, hown, hts⟩ (c_X10_beginning (l := l) (D := D) (a := wd i) (k := k) (ha := by omega) (hw := by omega) (hk := by omega)) (va_cwS 2 hts gX10_isFirstWith_X10_beginning rfl rfl rfl (by decide +kernel) ⟨Nat.le_of_ble_eq_true rfl, Nat.le_of_ble_eq_true rfl⟩) ⟨qP_blind, (qP_of (q_Pof (fun _ h => absurd h List.not_mem_nil)) (hK.sub (tys' := []) [] rfl) hNw)⟩ rfl rfl hl.1 rfl (lv_room (Nat.le_of_ble_eq_true rfl)) dX10_isFirstWith_95 ⟨Nat.le_of_ble_eq_true rfl, Nat.le_of_ble_eq_true rfl⟩) (fun r_2 hr_2 => ?_)
              subst hr_2
              refine W.lcmp hx hb dX10_isFirstWith_98 ?_
              refine q_lc_eq (a := beg (wd j) k) (b := beg (wd i) k) (tgt := 106) hx hb dX10_isFirstWith_99 (by decide) (by have := beg_lt (n := wd j) (k := k); omega) (by have := beg_lt (n := wd i) (k := k); omega) (fun c_99 => ?_) (fun c_99 => ?_)
              · skip
                refine lv_iconst (v := nI 0) hx hb dX10_isFirstWith_106 (by decide) ?_
                exact hcut_107 0 _ _ _ _ ⟨(by omega), (by omega), rfl, rfl, (lv_sub hl [0, 1, 2, 3, 4, 5] rfl), rfl⟩
              · skip
                refine lv_iconst (v := nI 1) hx hb dX10_isFirstWith_102 (by decide) ?_
                refine lv_goto (tgt := 107) hx hb dX10_isFirstWith_103 (by decide) ?_
                exact hcut_107 1 _ _ _ _ ⟨(by omega), (by omega), rfl, rfl, (lv_sub hl [0, 1, 2, 3, 4, 5] rfl), rfl⟩
      · intro hcut_66
        have hwj := gw_wl (hgw j (by omega))
        have hlj := gw_lt (hgw j (by omega))
        refine q_if_le (a := ct j) (tgt := 65) hx hb dX10_isFirstWith_44 (by decide) (hcb j (by omega)) (fun c_44 => ?_) (fun c_44 => ?_)
        · skip
          refine lv_iconst (v := nI 0) hx hb dX10_isFirstWith_65 (by decide) ?_
          exact hcut_66 0 _ _ _ _ ⟨(by omega), (by omega), rfl, rfl, (lv_sub hl [0, 1, 2, 3, 4] rfl), rfl⟩
        · skip
          refine lv_aload_n hx hb dX10_isFirstWith_47 rfl (lv_at hl 2 rfl) ?_
          refine va_get (D := D) (own := RX10) (ref := "FuzzyFensModel") (ci := 9) (v := .ref mw) (C := RX10) (T := TX10) (N := 15) hx hb hts iX10_isFirstWith_X10 hown hK hR 0 rfl rfl 2 (by decide) (hts (.fieldLink RX10 7 "FuzzyFensModel" "words" "[J") (List.mem_of_getElem? (i := 2) rfl)) (fun _ h9 => h9) rfl dX10_isFirstWith_48 ?_
          refine lv_iload hx hb dX10_isFirstWith_51 (lv_at hl 0 rfl) ?_
          refine va_lald (D := D) hx hb hK hR 1 0 rfl rfl (vp_in_nI (n := j) (N := 40) (by omega) (by decide)) dX10_isFirstWith_53 ?_
          rw [nI_clamp (n := j) (by omega)]
          refine q_cvl (show (fun k9 => lN (wd k9)) j = lN (wd j) from rfl) ?_
          refine vp_callSi (W.runS (As := [.long (lN (wd j))]) (rest := []) ⟨hx, hb, hml, hown, hts⟩ (c_X10_lengthOf (l := l) (D := D) (a := wd j) (ha := by omega)) (va_cwS 1 hts gX10_isFirstWith_X10_lengthOf rfl rfl rfl (by decide +kernel) ⟨Nat.le_of_ble_eq_true rfl, Nat.le_of_ble_eq_true rfl⟩) ⟨qP_blind, (qP_of (q_Pof (fun _ h => absurd h List.not_mem_nil)) (hK.sub (tys' := []) [] rfl) hNw)⟩ rfl rfl hl.1 rfl (lv_room (Nat.le_of_ble_eq_true rfl)) dX10_isFirstWith_54 ⟨Nat.le_of_ble_eq_true rfl, Nat.le_of_ble_eq_true rfl⟩) (fun r_3 hr_3 => ?_)
          subst hr_3
          refine lv_iload_n hx hb dX10_isFirstWith_57 rfl (lv_at hl 4 rfl) ?_
          refine q_icmp_lt (a := wl (wd j)) (b := k) (tgt := 65) hx hb dX10_isFirstWith_58 (by decide) (by omega) (by omega) (fun c_58 => ?_) (fun c_58 => ?_)
          · skip
            refine lv_iconst (v := nI 0) hx hb dX10_isFirstWith_65 (by decide) ?_
            exact hcut_66 0 _ _ _ _ ⟨(by omega), (by omega), rfl, rfl, (lv_sub hl [0, 1, 2, 3, 4] rfl), rfl⟩
          · skip
            refine lv_iconst (v := nI 1) hx hb dX10_isFirstWith_61 (by decide) ?_
            refine lv_goto (tgt := 66) hx hb dX10_isFirstWith_62 (by decide) ?_
            exact hcut_66 1 _ _ _ _ ⟨(by omega), (by omega), rfl, rfl, (lv_sub hl [0, 1, 2, 3, 4] rfl), rfl⟩
  · intro hcut_27
    refine q_if_le (a := ct i) (tgt := 26) hx hb dX10_isFirstWith_6 (by decide) (hcb i hi) (fun c_6 => ?_) (fun c_6 => ?_)
    · skip
      refine lv_iconst (v := nI 0) hx hb dX10_isFirstWith_26 (by decide) ?_
      exact hcut_27 0 _ _ _ _ ⟨(by omega), (by omega), rfl, rfl, (lv_sub hl [0, 1, 2] rfl), rfl⟩
    · skip
      refine lv_aload_n hx hb dX10_isFirstWith_9 rfl (lv_at hl 0 rfl) ?_
      refine va_get (D := D) (own := RX10) (ref := "FuzzyFensModel") (ci := 9) (v := .ref mw) (C := RX10) (T := TX10) (N := 15) hx hb hts iX10_isFirstWith_X10 hown hK hR 0 rfl rfl 2 (by decide) (hts (.fieldLink RX10 7 "FuzzyFensModel" "words" "[J") (List.mem_of_getElem? (i := 2) rfl)) (fun _ h9 => h9) rfl dX10_isFirstWith_10 ?_
      refine lv_iload_n hx hb dX10_isFirstWith_13 rfl (lv_at hl 1 rfl) ?_
      refine va_lald (D := D) hx hb hK hR 1 0 rfl rfl (vp_in_nI (n := i) (N := 40) (by omega) (by decide)) dX10_isFirstWith_14 ?_
      rw [nI_clamp (n := i) (by omega)]
      refine q_cvl (show (fun k9 => lN (wd k9)) i = lN (wd i) from rfl) ?_
      refine vp_callSi (W.runS (As := [.long (lN (wd i))]) (rest := []) ⟨hx, hb, hml, hown, hts⟩ (c_X10_lengthOf (l := l) (D := D) (a := wd i) (ha := by omega)) (va_cwS 1 hts gX10_isFirstWith_X10_lengthOf rfl rfl rfl (by decide +kernel) ⟨Nat.le_of_ble_eq_true rfl, Nat.le_of_ble_eq_true rfl⟩) ⟨qP_blind, (qP_of (q_Pof (fun _ h => absurd h List.not_mem_nil)) (hK.sub (tys' := []) [] rfl) hNw)⟩ rfl rfl hl.1 rfl (lv_room (Nat.le_of_ble_eq_true rfl)) dX10_isFirstWith_15 ⟨Nat.le_of_ble_eq_true rfl, Nat.le_of_ble_eq_true rfl⟩) (fun r_4 hr_4 => ?_)
      subst hr_4
      refine lv_iload_n hx hb dX10_isFirstWith_18 rfl (lv_at hl 2 rfl) ?_
      refine q_icmp_lt (a := wl (wd i)) (b := k) (tgt := 26) hx hb dX10_isFirstWith_19 (by decide) (by omega) (by omega) (fun c_19 => ?_) (fun c_19 => ?_)
      · skip
        refine lv_iconst (v := nI 0) hx hb dX10_isFirstWith_26 (by decide) ?_
        exact hcut_27 0 _ _ _ _ ⟨(by omega), (by omega), rfl, rfl, (lv_sub hl [0, 1, 2] rfl), rfl⟩
      · skip
        refine lv_iconst (v := nI 1) hx hb dX10_isFirstWith_22 (by decide) ?_
        refine lv_goto (tgt := 27) hx hb dX10_isFirstWith_23 (by decide) ?_
        exact hcut_27 1 _ _ _ _ ⟨(by omega), (by omega), rfl, rfl, (lv_sub hl [0, 1, 2] rfl), rfl⟩

set_option maxRecDepth 20000 in
theorem iX10_trieNodes_X10 : ∀ w ∈ wsX100, w ∈ wsX10_trieNodes := by decide +kernel
set_option maxHeartbeats 4000000 in
set_option maxRecDepth 100000 in
/-- trieNodes -/
theorem c_X10_trieNodes (l : Launch) (D : va_G) (sz : Nat) (mo : Nat) (mw : Nat) (mct : Nat) (mp : Nat) (mnm : Nat) (m1 : Nat) (m2 : Nat) (mt : Nat) (mk : Nat) (mr : Nat) (ml : Nat) (mq : Nat) (k1 : ClassId) (k2 : ClassId) (th : Int32) (n : Nat) (om : Int32) (tm : Int32) (wd : Nat → Nat) (ct : Nat → Nat) (hnd : ([mo] ++ [mw, mct]).Nodup) (hn40 : n ≤ 40) (hgw : ∀ k, k < n → gw (wd k)) (hcb : ∀ k, k < n → ct k < 2 ^ 31) : Met l yX10_trieNodes wsX10_trieNodes { frames := 3, cells := 0, slots := 0, locals := 74 } (va_Pc [.ref mo] (qW D sz ([(mw, .inl (k1, 40, .inr (.inl (fun k9 => lN (wd k9))))), (mct, .inl (k2, 40, .inl (fun k9 => nI (ct k9))))]) [(mo, .inr (9, [.int th, .int (nI n), .ref mw, .ref mct, .ref mp, .ref mnm, .ref m1, .ref m2, .int om, .int tm, .ref mt, .ref mk, .ref mr, .ref ml, .ref mq]))] [(k1, .long), (k2, .int)])) (va_Qi (fun (rv : Int32) (uv : Unit) => rv = nI (1 + sm (fun i => fwc wd ct i 10) n)) (fun (uv : Unit) (tv : State) => va_P D vwCl [(mo, .inr (9, [.int (nI 0), .int (nI n), .ref mw, .ref mct, .ref mp, .ref mnm, .ref m1, .ref m2, .int om, .int tm, .ref mt, .ref mk, .ref mr, .ref ml, .ref mq]))] tv.heap) (va_A [(mo, .inr (9, [.int th, .int (nI n), .ref mw, .ref mct, .ref mp, .ref mnm, .ref m1, .ref m2, .int om, .int tm, .ref mt, .ref mk, .ref mr, .ref ml, .ref mq]))] sz)) 0 0 (va_A [(mo, .inr (9, [.int th, .int (nI n), .ref mw, .ref mct, .ref mp, .ref mnm, .ref m1, .ref m2, .int om, .int tm, .ref mt, .ref mk, .ref mr, .ref ml, .ref mq]))] sz) := by
  refine Met.ofW (cc := cX10_trieNodes) (maxL := 4) (ret := (some .int)) (by decide) rfl ?_
  intro pM eM s mi9 argsM belowM methM cM sM B hml hv
  obtain ⟨rfl, hsz, hR0, hP, hK, hNw⟩ := hv
  have hx := B.exec
  have hb := B.bytes
  have hr := B.returns
  have hts := atoms_spec (ws := wsX10_trieNodes) B.pre
  have hown : s.vm.findClass RX10 = some mi9.cls := findClass_of_methodNamed B.named
  have hlocks := B.notSynchronized
  subst hsz
  have hna := q_na (RW := [(mo, .inr (9, [.int th, .int (nI n), .ref mw, .ref mct, .ref mp, .ref mnm, .ref m1, .ref m2, .int om, .int tm, .ref mt, .ref mk, .ref mr, .ref ml, .ref mq]))]) (RO := [(mw, .inl (k1, 40, .inr (.inl (fun k9 => lN (wd k9))))), (mct, .inl (k2, 40, .inl (fun k9 => nI (ct k9))))]) hnd rfl rfl hR0
  have hD := q_D (RW := [(mo, .inr (9, [.int th, .int (nI n), .ref mw, .ref mct, .ref mp, .ref mnm, .ref m1, .ref m2, .int om, .int tm, .ref mt, .ref mk, .ref mr, .ref ml, .ref mq]))]) (sz := s.heap.size) hnd rfl
  have hA : ∀ q : Nat, s.heap.size ≤ q → va_A [(mo, .inr (9, [.int th, .int (nI n), .ref mw, .ref mct, .ref mp, .ref mnm, .ref m1, .ref m2, .int om, .int tm, .ref mt, .ref mk, .ref mr, .ref ml, .ref mq]))] s.heap.size q := fun q h => Or.inr h
  generalize hAe : va_A [(mo, .inr (9, [.int th, .int (nI n), .ref mw, .ref mct, .ref mp, .ref mnm, .ref m1, .ref m2, .int om, .int tm, .ref mt, .ref mk, .ref mr, .ref ml, .ref mq]))] s.heap.size = A at hna hD hA ⊢
  have hS : va_S A s.heap s.heap [] := va_S.rf
  have hR := hR0
  have hP : va_P D vwCl [(mo, .inr (9, [.int th, .int (nI n), .ref mw, .ref mct, .ref mp, .ref mnm, .ref m1, .ref m2, .int om, .int tm, .ref mt, .ref mk, .ref mr, .ref ml, .ref mq]))] s.heap := hP
  have hl := lv_entry ([.ref mo]) (n := 4) (Nat.le_of_ble_eq_true rfl)
  rw [lg_entry_eq]
  generalize (lg_sl ([.ref mo]) ++ List.replicate (4 - (lg_sl ([.ref mo])).length) Slot.unset).toArray = ls at hl ⊢
  have hl : lv_has ls 4 [(0, .ref mo)] := hl
  refine lv_aload_n hx hb dX10_trieNodes_0 rfl (lv_at hl 0 rfl) ?_
  refine lv_iconst (v := nI 0) hx hb dX10_trieNodes_1 (by decide) ?_
  refine va_put (D := D) (ci := 9) (v := .int (nI 0)) (ty := .int) (C := RX10) (T := TX10) (N := 15) hx hb hts iX10_trieNodes_X10 tyX10 tyX10_ok nmX10 hown hK hP hD hS 0 rfl rfl 0 (by decide) (hts (.fieldLink RX10 44 "FuzzyFensModel" "thrown" "I") (List.mem_of_getElem? (i := 1) rfl)) (fun _ h9 => h9) rfl (by decide +kernel) rfl rfl (Nat.le_of_ble_eq_true rfl) dX10_trieNodes_2 (fun H_1 locs_2 hP hD hS => ?_)
  have hP : va_P D vwCl [(mo, .inr (9, [.int (nI 0), .int (nI n), .ref mw, .ref mct, .ref mp, .ref mnm, .ref m1, .ref m2, .int om, .int tm, .ref mt, .ref mk, .ref mr, .ref ml, .ref mq]))] H_1 := hP
  have hD : va_D A [(mo, .inr (9, [.int (nI 0), .int (nI n), .ref mw, .ref mct, .ref mp, .ref mnm, .ref m1, .ref m2, .int om, .int tm, .ref mt, .ref mk, .ref mr, .ref ml, .ref mq]))] := hD
  have hR := q_ro hR0 hna hS
  refine lv_iconst (v := nI 1) hx hb dX10_trieNodes_5 (by decide) ?_
  refine lv_istore_n (lv' := [(1, .int (nI 1)), (0, .ref mo)]) hx hb dX10_trieNodes_6 rfl hl (by decide) rfl (fun ls hl => ?_)
  refine lv_iconst (v := nI 0) hx hb dX10_trieNodes_7 (by decide) ?_
  refine lv_istore_n (lv' := [(2, .int (nI 0)), (1, .int (nI 1)), (0, .ref mo)]) hx hb dX10_trieNodes_8 rfl hl (by decide) rfl (fun ls hl => ?_)
  refine q_loop (fun (x : (Nat)) (Hc : Heap) (Lc : List Loc) (ls : Array Slot) => match x with | i => (i ≤ n) ∧ H_1 = Hc ∧ locs_2 = Lc ∧ lv_has ls 4 [(2, .int (nI i)), (1, .int (nI (sm (fun i => fwc wd ct i 10) i + 1))), (0, .ref mo)]) (fun (x : (Nat)) => match x with | i => n - i) 0 ⟨(by omega), rfl, rfl, (lv_sub hl [0, 1, 2] rfl)⟩ ?_
  clear hl
  rintro i Hc Lc ls hI ih_9
  obtain ⟨hi, rfl, rfl, hl⟩ := hI
  refine lv_iload_n hx hb dX10_trieNodes_9 rfl (lv_at hl 0 rfl) ?_
  refine lv_aload_n hx hb dX10_trieNodes_10 rfl (lv_at hl 2 rfl) ?_
  refine va_get (D := D) (own := RX10) (ref := "FuzzyFensModel") (ci := 9) (v := .int (nI n)) (C := RX10) (T := TX10) (N := 15) hx hb hts iX10_trieNodes_X10 hown hK hP 0 rfl rfl 1 (by decide) (hts (.fieldLink RX10 77 "FuzzyFensModel" "many" "I") (List.mem_of_getElem? (i := 2) rfl)) (fun _ h9 => h9) rfl dX10_trieNodes_11 ?_
  refine q_icmp_ge (a := i) (b := n) (tgt := 54) hx hb dX10_trieNodes_14 (by decide) (by omega) (by omega) (fun c_14 => ?_) (fun c_14 => ?_)
  · skip
    refine lv_iload_n hx hb dX10_trieNodes_54 rfl (lv_at hl 1 rfl) ?_
    exact W.iret (v := nI (sm (fun i => fwc wd ct i 10) i + 1)) hx hb hr (fun t9 ht hW => ⟨⟨nI (sm (fun i => fwc wd ct i 10) i + 1), (), rfl, (congrArg nI (by rw [show n = i by omega]; omega)), by show va_P D vwCl _ t9.heap; rw [ht]; exact hP⟩, hS.F ht⟩) hS.2.2 dX10_trieNodes_55
  · skip
    refine lv_iconst (v := nI 1) hx hb dX10_trieNodes_17 (by decide) ?_
    refine lv_istore_n (lv' := [(3, .int (nI 1)), (2, .int (nI i)), (1, .int (nI (sm (fun i => fwc wd ct i 10) i + 1))), (0, .ref mo)]) hx hb dX10_trieNodes_18 rfl hl (by decide) rfl (fun ls hl => ?_)
    refine q_loop (fun (x : (Nat)) (Hc : Heap) (Lc : List Loc) (ls : Array Slot) => match x with | q => (q ≤ 10) ∧ H_1 = Hc ∧ locs_2 = Lc ∧ lv_has ls 4 [(3, .int (nI (q + 1))), (2, .int (nI i)), (1, .int (nI (sm (fun i => fwc wd ct i 10) i + fwc wd ct i q + 1))), (0, .ref mo)]) (fun (x : (Nat)) => match x with | q => 10 - q) 0 ⟨(by omega), rfl, rfl, (lv_sub hl [0, 1, 2, 3] rfl)⟩ ?_
    clear hl
    rintro q Hc Lc ls hI ih_19
    obtain ⟨hq, rfl, rfl, hl⟩ := hI
    refine lv_iload_n hx hb dX10_trieNodes_19 rfl (lv_at hl 0 rfl) ?_
    refine lv_bipush (v := nI 10) hx hb dX10_trieNodes_20 (by decide) ?_
    refine q_icmp_gt (a := q + 1) (b := 10) (tgt := 48) hx hb dX10_trieNodes_22 (by decide) (by omega) (by omega) (fun c_22 => ?_) (fun c_22 => ?_)
    · skip
      refine lv_iinc (v := nI (i + 1)) (lv' := [(2, .int (nI (i + 1))), (3, .int (nI (q + 1))), (1, .int (nI (sm (fun i => fwc wd ct i 10) i + fwc wd ct i q + 1))), (0, .ref mo)]) hx hb dX10_trieNodes_48 hl (k := 1) rfl (q_inc (k := 1) (by omega)) (by decide) rfl (fun ls hl => ?_)
      refine lv_goto (tgt := 9) hx hb dX10_trieNodes_51 (by decide) ?_
      have e10 : q = 10 := by omega
      rw [e10] at hl
      exact ih_9 (i + 1) _ _ _ ⟨(by omega), rfl, rfl, (lv_sub hl [0, 2, 3] rfl)⟩ (by show n - (i + 1) < n - i; omega)
    · skip
      refine lv_iload_n hx hb dX10_trieNodes_25 rfl (lv_at hl 2 rfl) ?_
      refine lv_aload_n hx hb dX10_trieNodes_26 rfl (lv_at hl 3 rfl) ?_
      refine lv_iload_n hx hb dX10_trieNodes_27 rfl (lv_at hl 1 rfl) ?_
      refine lv_iload_n hx hb dX10_trieNodes_28 rfl (lv_at hl 0 rfl) ?_
      refine vp_callSi (W.runV (As := [.int (nI i), .int (nI (q + 1))]) (rest := [.int (nI (sm (fun i => fwc wd ct i 10) i + fwc wd ct i q + 1))]) ⟨hx, hb, hml, hown, hts⟩ (c_X10_isFirstWith (l := l) (D := D) (mo := mo) (mw := mw) (mct := mct) (mp := mp) (mnm := mnm) (m1 := m1) (m2 := m2) (mt := mt) (mk := mk) (mr := mr) (ml := ml) (mq := mq) (k1 := k1) (k2 := k2) (th := nI 0) (n := n) (om := om) (tm := tm) (wd := wd) (ct := ct) (i := i) (k := q + 1) (hn40 := hn40) (hgw := by omega) (hcb := by omega) (hi := by omega) (hk10 := by omega)) (cwV 2 hts gX10_trieNodes_X10_isFirstWith rfl rfl rfl (by decide +kernel) ⟨Nat.le_of_ble_eq_true rfl, Nat.le_of_ble_eq_true rfl⟩) ⟨qP_blind, (va_recv hK hP (ci := 9) (q0 := 0) rfl rfl), (qP_of (show va_P D vwCl [(mo, .inr (9, [.int (nI 0), .int (nI n), .ref mw, .ref mct, .ref mp, .ref mnm, .ref m1, .ref m2, .int om, .int tm, .ref mt, .ref mk, .ref mr, .ref ml, .ref mq])), (mw, .inl (k1, 40, .inr (.inl (fun k9 => lN (wd k9))))), (mct, .inl (k2, 40, .inl (fun k9 => nI (ct k9))))] _ from (va_P.app (hP.sub (ws' := [(mo, .inr (9, [.int (nI 0), .int (nI n), .ref mw, .ref mct, .ref mp, .ref mnm, .ref m1, .ref m2, .int om, .int tm, .ref mt, .ref mk, .ref mr, .ref ml, .ref mq]))]) [0] rfl) (va_P.app (hR.sub (ws' := [(mw, .inl (k1, 40, .inr (.inl (fun k9 => lN (wd k9)))))]) [0] rfl) (hR.sub (ws' := [(mct, .inl (k2, 40, .inl (fun k9 => nI (ct k9))))]) [1] rfl)))) (hK.sub (tys' := [(k1, .long), (k2, .int)]) [0, 1] rfl) hNw)⟩ rfl rfl hl.1 rfl (lv_room (Nat.le_of_ble_eq_true rfl)) dX10_trieNodes_29 ⟨Nat.le_of_ble_eq_true rfl, Nat.le_of_ble_eq_true rfl⟩) (fun r_3 hr_3 => ?_)
      subst hr_3
      refine q_cut 40 (fun (x : (Nat)) (Hc : Heap) (Lc : List Loc) (ls : Array Slot) (st : List Value) => match x with | z => (fwc wd ct i q + z = fwc wd ct i (q + 1)) ∧ H_1 = Hc ∧ locs_2 = Lc ∧ lv_has ls 4 [(3, .int (nI (q + 1))), (2, .int (nI i)), (1, .int (nI (sm (fun i => fwc wd ct i 10) i + fwc wd ct i q + 1))), (0, .ref mo)] ∧ [.int (nI z), .int (nI (sm (fun i => fwc wd ct i 10) i + fwc wd ct i q + 1))] = st) ?_ ?_
      · clear hl
        rintro z Hc Lc ls st hI
        obtain ⟨hz, rfl, rfl, hl, rfl⟩ := hI
        refine q_iadd (d := sm (fun i => fwc wd ct i 10) i + fwc wd ct i q + z + 1) hx hb dX10_trieNodes_40 (by omega) ?_
        refine q_cvi (show (nI (sm (fun i => fwc wd ct i 10) i + fwc wd ct i q + z + 1)) = (nI (sm (fun i => fwc wd ct i 10) i + fwc wd ct i (q + 1) + 1)) from (by rw [← hz]; congr 1; omega)) ?_
        refine lv_istore_n (lv' := [(1, .int (nI (sm (fun i => fwc wd ct i 10) i + fwc wd ct i (q + 1) + 1))), (3, .int (nI (q + 1))), (2, .int (nI i)), (0, .ref mo)]) hx hb dX10_trieNodes_41 rfl hl (by decide) rfl (fun ls hl => ?_)
        refine lv_iinc (v := nI (q + 2)) (lv' := [(3, .int (nI (q + 2))), (1, .int (nI (sm (fun i => fwc wd ct i 10) i + fwc wd ct i (q + 1) + 1))), (2, .int (nI i)), (0, .ref mo)]) hx hb dX10_trieNodes_42 hl (k := 1) rfl (q_inc (k := 1) (by omega)) (by decide) rfl (fun ls hl => ?_)
        refine lv_goto (tgt := 19) hx hb dX10_trieNodes_45 (by decide) ?_
        exact ih_19 (q + 1) _ _ _ ⟨(by omega), rfl, rfl, (lv_sub hl [0, 2, 1, 3] rfl)⟩ (by show 10 - (q + 1) < 10 - q; omega)
      · intro hcut_40
        refine q_ifb_eq (tgt := 39) hx hb dX10_trieNodes_32 (by decide) (fun c_32 => ?_) (fun c_32 => ?_)
        · skip
          refine lv_iconst (v := nI 0) hx hb dX10_trieNodes_39 (by decide) ?_
          exact hcut_40 0 _ _ _ _ ⟨(cnt_f (by rw [decide_eq_true_eq]; exact c_32)).symm, rfl, rfl, (lv_sub hl [0, 1, 2, 3] rfl), rfl⟩
        · skip
          refine lv_iconst (v := nI 1) hx hb dX10_trieNodes_35 (by decide) ?_
          refine lv_goto (tgt := 40) hx hb dX10_trieNodes_36 (by decide) ?_
          exact hcut_40 1 _ _ _ _ ⟨(cnt_t (decide_eq_true c_32)).symm, rfl, rfl, (lv_sub hl [0, 1, 2, 3] rfl), rfl⟩

set_option maxRecDepth 20000 in
theorem iX10_rowOf_X10 : ∀ w ∈ wsX100, w ∈ wsX10_rowOf := by decide +kernel
set_option maxHeartbeats 4000000 in
set_option maxRecDepth 100000 in
/-- rowOf -/
theorem c_X10_rowOf (l : Launch) (D : va_G) (sz : Nat) (mo : Nat) (mw : Nat) (mct : Nat) (mp : Nat) (mnm : Nat) (m1 : Nat) (m2 : Nat) (mt : Nat) (mk : Nat) (mr : Nat) (ml : Nat) (mq : Nat) (k5 : ClassId) (k6 : ClassId) (k7 : ClassId) (th : Int32) (n : Nat) (om : Int32) (tm : Int32) (f1 : Nat → Int32) (f2 : Nat → Int32) (ft : Nat → Int32) (h : Nat) (a : Nat) (k : Nat) (hnd : ([mo, m1, m2, mt] ++ []).Nodup) (hwh : wl h ≤ 10) (hlh : h < 2 ^ 63) (hwa : wl a ≤ 10) (hla : a < 2 ^ 63) (hk3 : k ≤ 3) : Met l yX10_rowOf wsX10_rowOf { frames := 3, cells := 0, slots := 0, locals := 76 } (va_Pc [.ref mo, .long (lN h), .long (lN a), .int (nI k)] (qW D sz ([]) [(mo, .inr (9, [.int th, .int (nI n), .ref mw, .ref mct, .ref mp, .ref mnm, .ref m1, .ref m2, .int om, .int tm, .ref mt, .ref mk, .ref mr, .ref ml, .ref mq])), (m1, .inl (k5, 11, .inl f1)), (m2, .inl (k6, 11, .inl f2)), (mt, .inl (k7, 121, .inl ft))] [(k5, .int), (k6, .int), (k7, .int)])) (va_Ql (fun (rv : Int64) (uv : (Nat → Int32) × (Nat → Int32) × (Nat → Int32)) => rv = rwo a k h) (fun (uv : (Nat → Int32) × (Nat → Int32) × (Nat → Int32)) (tv : State) => va_P D vwCl [(mo, .inr (9, [.int th, .int (nI n), .ref mw, .ref mct, .ref mp, .ref mnm, .ref m1, .ref m2, .int (nI (wl h)), .int (nI (wl a)), .ref mt, .ref mk, .ref mr, .ref ml, .ref mq])), (m1, .inl (k5, 11, .inl uv.1)), (m2, .inl (k6, 11, .inl uv.2.1)), (mt, .inl (k7, 121, .inl uv.2.2))] tv.heap) (va_A [(mo, .inr (9, [.int th, .int (nI n), .ref mw, .ref mct, .ref mp, .ref mnm, .ref m1, .ref m2, .int om, .int tm, .ref mt, .ref mk, .ref mr, .ref ml, .ref mq])), (m1, .inl (k5, 11, .inl f1)), (m2, .inl (k6, 11, .inl f2)), (mt, .inl (k7, 121, .inl ft))] sz)) 0 0 (va_A [(mo, .inr (9, [.int th, .int (nI n), .ref mw, .ref mct, .ref mp, .ref mnm, .ref m1, .ref m2, .int om, .int tm, .ref mt, .ref mk, .ref mr, .ref ml, .ref mq])), (m1, .inl (k5, 11, .inl f1)), (m2, .inl (k6, 11, .inl f2)), (mt, .inl (k7, 121, .inl ft))] sz) := by
  refine Met.ofW (cc := cX10_rowOf) (maxL := 11) (ret := (some .long)) (by decide) rfl ?_
  intro pM eM s mi9 argsM belowM methM cM sM B hml hv
  obtain ⟨rfl, hsz, hR0, hP, hK, hNw⟩ := hv
  have hx := B.exec
  have hb := B.bytes
  have hr := B.returns
  have hts := atoms_spec (ws := wsX10_rowOf) B.pre
  have hown : s.vm.findClass RX10 = some mi9.cls := findClass_of_methodNamed B.named
  have hlocks := B.notSynchronized
  subst hsz
  have hna := q_na (RW := [(mo, .inr (9, [.int th, .int (nI n), .ref mw, .ref mct, .ref mp, .ref mnm, .ref m1, .ref m2, .int om, .int tm, .ref mt, .ref mk, .ref mr, .ref ml, .ref mq])), (m1, .inl (k5, 11, .inl f1)), (m2, .inl (k6, 11, .inl f2)), (mt, .inl (k7, 121, .inl ft))]) (RO := []) hnd rfl rfl hR0
  have hD := q_D (RW := [(mo, .inr (9, [.int th, .int (nI n), .ref mw, .ref mct, .ref mp, .ref mnm, .ref m1, .ref m2, .int om, .int tm, .ref mt, .ref mk, .ref mr, .ref ml, .ref mq])), (m1, .inl (k5, 11, .inl f1)), (m2, .inl (k6, 11, .inl f2)), (mt, .inl (k7, 121, .inl ft))]) (sz := s.heap.size) hnd rfl
  have hA : ∀ q : Nat, s.heap.size ≤ q → va_A [(mo, .inr (9, [.int th, .int (nI n), .ref mw, .ref mct, .ref mp, .ref mnm, .ref m1, .ref m2, .int om, .int tm, .ref mt, .ref mk, .ref mr, .ref ml, .ref mq])), (m1, .inl (k5, 11, .inl f1)), (m2, .inl (k6, 11, .inl f2)), (mt, .inl (k7, 121, .inl ft))] s.heap.size q := fun q h => Or.inr h
  generalize hAe : va_A [(mo, .inr (9, [.int th, .int (nI n), .ref mw, .ref mct, .ref mp, .ref mnm, .ref m1, .ref m2, .int om, .int tm, .ref mt, .ref mk, .ref mr, .ref ml, .ref mq])), (m1, .inl (k5, 11, .inl f1)), (m2, .inl (k6, 11, .inl f2)), (mt, .inl (k7, 121, .inl ft))] s.heap.size = A at hna hD hA ⊢
  have hS : va_S A s.heap s.heap [] := va_S.rf
  have hR := hR0
  have hP : va_P D vwCl [(mo, .inr (9, [.int th, .int (nI n), .ref mw, .ref mct, .ref mp, .ref mnm, .ref m1, .ref m2, .int om, .int tm, .ref mt, .ref mk, .ref mr, .ref ml, .ref mq])), (m1, .inl (k5, 11, .inl f1)), (m2, .inl (k6, 11, .inl f2)), (mt, .inl (k7, 121, .inl ft))] s.heap := hP
  have hl := lv_entry ([.ref mo, .long (lN h), .long (lN a), .int (nI k)]) (n := 11) (Nat.le_of_ble_eq_true rfl)
  rw [lg_entry_eq]
  generalize (lg_sl ([.ref mo, .long (lN h), .long (lN a), .int (nI k)]) ++ List.replicate (11 - (lg_sl ([.ref mo, .long (lN h), .long (lN a), .int (nI k)])).length) Slot.unset).toArray = ls at hl ⊢
  have hl : lv_has ls 11 [(0, .ref mo), (1, .long (lN h)), (3, .long (lN a)), (5, .int (nI k))] := hl
  refine lv_aload_n hx hb dX10_rowOf_0 rfl (lv_at hl 0 rfl) ?_
  refine lv_lload_n hx hb dX10_rowOf_1 rfl (lv_at hl 1 rfl) ?_
  refine lv_lload_n hx hb dX10_rowOf_2 rfl (lv_at hl 2 rfl) ?_
  have hF := va_free (wc := [(mo, .inr (9, [.int th, .int (nI n), .ref mw, .ref mct, .ref mp, .ref mnm, .ref m1, .ref m2, .int om, .int tm, .ref mt, .ref mk, .ref mr, .ref ml, .ref mq])), (m1, .inl (k5, 11, .inl f1)), (m2, .inl (k6, 11, .inl f2)), (mt, .inl (k7, 121, .inl ft))]) hD hS hA [0, 1, 2, 3] rfl
  refine va_callv (va_runV (As := [.long (lN h), .long (lN a)]) (rest := []) ⟨hx, hb, hml, hown, hts⟩ (c_X10_layDistances (l := l) (D := D) (mo := mo) (mw := mw) (mct := mct) (mp := mp) (mnm := mnm) (m1 := m1) (m2 := m2) (mt := mt) (mk := mk) (mr := mr) (ml := ml) (mq := mq) (k5 := k5) (k6 := k6) (k7 := k7) (th := th) (n := n) (om := om) (tm := tm) (f1 := f1) (f2 := f2) (ft := ft) (a := h) (b := a) (sz := s.heap.size) (hnd := (q_nds hnd [0, 1, 2, 3] rfl rfl)) (hwa := hwh) (hwb := hwa) (hla := hlh) (hlb := hla)) (cwV 2 hts gX10_rowOf_X10_layDistances rfl rfl rfl (by decide +kernel) ⟨Nat.le_of_ble_eq_true rfl, Nat.le_of_ble_eq_true rfl⟩) ⟨qW_blind, (va_recv hK hP (ci := 9) (q0 := 0) rfl rfl), (qW_of (q_Pof (fun _ h => absurd h List.not_mem_nil)) (hP.sub (ws' := [(mo, .inr (9, [.int th, .int (nI n), .ref mw, .ref mct, .ref mp, .ref mnm, .ref m1, .ref m2, .int om, .int tm, .ref mt, .ref mk, .ref mr, .ref ml, .ref mq])), (m1, .inl (k5, 11, .inl f1)), (m2, .inl (k6, 11, .inl f2)), (mt, .inl (k7, 121, .inl ft))]) [0, 1, 2, 3] rfl) (hK.sub (tys' := [(k5, .int), (k6, .int), (k7, .int)]) [0, 1, 2] rfl) hNw)⟩ rfl rfl hl.1 rfl (lv_room (Nat.le_of_ble_eq_true rfl)) dX10_rowOf_3 ⟨Nat.le_of_ble_eq_true rfl, Nat.le_of_ble_eq_true rfl⟩) hS (fun q _ h => hF q h) hF (fun u_5 t_4 H_2 locs_3 ht hvm hr_1 hB hz1 hk1 hS => ?_)
  obtain ⟨g1_6, g2_7, g3_8⟩ := u_5
  dsimp only at hr_1 hB
  replace hB : va_P D vwCl [(mo, .inr (9, [.int th, .int (nI n), .ref mw, .ref mct, .ref mp, .ref mnm, .ref m1, .ref m2, .int (nI (wl h)), .int (nI (wl a)), .ref mt, .ref mk, .ref mr, .ref ml, .ref mq])), (m1, .inl (k5, 11, .inl g1_6)), (m2, .inl (k6, 11, .inl g2_7)), (mt, .inl (k7, 121, .inl g3_8))] H_2 := by rw [← ht]; exact hB
  obtain ⟨hP, hD⟩ := q_join (wc := [(mo, .inr (9, [.int th, .int (nI n), .ref mw, .ref mct, .ref mp, .ref mnm, .ref m1, .ref m2, .int om, .int tm, .ref mt, .ref mk, .ref mr, .ref ml, .ref mq])), (m1, .inl (k5, 11, .inl f1)), (m2, .inl (k6, 11, .inl f2)), (mt, .inl (k7, 121, .inl ft))]) (w1 := [(mo, .inr (9, [.int th, .int (nI n), .ref mw, .ref mct, .ref mp, .ref mnm, .ref m1, .ref m2, .int (nI (wl h)), .int (nI (wl a)), .ref mt, .ref mk, .ref mr, .ref ml, .ref mq])), (m1, .inl (k5, 11, .inl g1_6)), (m2, .inl (k6, 11, .inl g2_7)), (mt, .inl (k7, 121, .inl g3_8))]) (ws' := [(mo, .inr (9, [.int th, .int (nI n), .ref mw, .ref mct, .ref mp, .ref mnm, .ref m1, .ref m2, .int (nI (wl h)), .int (nI (wl a)), .ref mt, .ref mk, .ref mr, .ref ml, .ref mq])), (m1, .inl (k5, 11, .inl g1_6)), (m2, .inl (k6, 11, .inl g2_7)), (mt, .inl (k7, 121, .inl g3_8))]) [0, 1, 2, 3] hP hD rfl rfl hk1 hB rfl
  have hR := q_ro hR0 hna hS
  have hld := hr_1
  refine lv_lconst (v := lN 0) hx hb dX10_rowOf_6 (by decide) ?_
  refine lv_lstore (lv' := [(6, .long (lN 0)), (0, .ref mo), (1, .long (lN h)), (3, .long (lN a)), (5, .int (nI k))]) hx hb dX10_rowOf_7 hl (by decide) rfl (fun ls hl => ?_)
  refine lv_iconst (v := nI 0) hx hb dX10_rowOf_9 (by decide) ?_
  refine lv_istore (lv' := [(8, .int (nI 0)), (6, .long (lN 0)), (0, .ref mo), (1, .long (lN h)), (3, .long (lN a)), (5, .int (nI k))]) hx hb dX10_rowOf_10 hl (by decide) rfl (fun ls hl => ?_)
  refine lv_aload_n hx hb dX10_rowOf_12 rfl (lv_at hl 2 rfl) ?_
  refine va_get (D := D) (own := RX10) (ref := "FuzzyFensModel") (ci := 9) (v := .int (nI (wl a))) (C := RX10) (T := TX10) (N := 15) hx hb hts iX10_rowOf_X10 hown hK hP 0 rfl rfl 9 (by decide) (hts (.fieldLink RX10 59 "FuzzyFensModel" "otherMany" "I") (List.mem_of_getElem? (i := 1) rfl)) (fun _ h9 => h9) rfl dX10_rowOf_13 ?_
  refine lv_istore (lv' := [(9, .int (nI (wl a))), (8, .int (nI 0)), (6, .long (lN 0)), (0, .ref mo), (1, .long (lN h)), (3, .long (lN a)), (5, .int (nI k))]) hx hb dX10_rowOf_16 hl (by decide) rfl (fun ls hl => ?_)
  refine q_loop (fun (x : (Nat) × (Nat) × (Nat)) (Hc : Heap) (Lc : List Loc) (ls : Array Slot) => match x with | (m, b, r) => (m ≤ wl a + 1) ∧ (b ≤ 1) ∧ (b = 1 ↔ ∃ j, m ≤ j ∧ j ≤ wl a ∧ hrow h a j ≤ k) ∧ (r = rnf (hrow h a) (k + 1) (wl a) (wl a + 1 - m)) ∧ H_2 = Hc ∧ locs_3 = Lc ∧ lv_has ls 11 [(9, .int (pin (pv m))), (8, .int (nI b)), (6, .long (lN r)), (0, .ref mo), (1, .long (lN h)), (3, .long (lN a)), (5, .int (nI k))]) (fun (x : (Nat) × (Nat) × (Nat)) => match x with | (m, b, r) => m) (wl a + 1, 0, 0) ⟨(Nat.le_refl _), (by omega), ⟨fun h9 => by omega, fun ⟨j, q1, q2, _⟩ => by omega⟩, (by rw [Nat.sub_self]; rfl), rfl, rfl, (lv_sub hl [0, 1, 2, 3, 4, 5, 6] rfl)⟩ ?_
  clear hl
  rintro ⟨m, b, r⟩ Hc Lc ls hI ih_18
  obtain ⟨hm, hb1, hbv, hre, rfl, rfl, hl⟩ := hI
  refine q_opt (o := pv m) (fun e_18 => ?_) (fun i7 e_18 => ?_)
  · skip
    have em := pv_n e_18
    have hiff := rch_iff em hbv
    have hl : lv_has ls 11 [(9, .int ((-1))), (8, .int (nI b)), (6, .long (lN r)), (0, .ref mo), (1, .long (lN h)), (3, .long (lN a)), (5, .int (nI k))] := by rw [e_18] at hl; exact hl
    refine lv_iload hx hb dX10_rowOf_18 (lv_at hl 0 rfl) ?_
    refine lv_if_lt (tgt := 84) hx hb dX10_rowOf_20 (by decide) (fun _ => ?_) (fun c9 => absurd (by decide) c9)
    refine lv_iload hx hb dX10_rowOf_84 (lv_at hl 1 rfl) ?_
    refine q_if_eq (a := b) (tgt := 94) hx hb dX10_rowOf_86 (by decide) (by omega) (fun c_86 => ?_) (fun c_86 => ?_)
    · skip
      refine lv_ldc2 (v := -1) hx hb hown (hts (.constantLong RX10 148 (-1)) (List.mem_of_getElem? (i := 5) rfl)) dX10_rowOf_94 ?_
      exact W.lret (v := (-1)) hx hb hr (fun t9 ht hW => ⟨⟨(-1), (g1_6, g2_7, g3_8), rfl, (by unfold rwo; rw [if_neg (fun h9 => by have := hiff.mpr h9; omega)]), by show va_P D vwCl _ t9.heap; rw [ht]; exact hP⟩, hS.F ht⟩) hS.2.2 dX10_rowOf_97
    · skip
      refine lv_lload hx hb dX10_rowOf_89 (lv_at hl 2 rfl) ?_
      refine lv_goto (tgt := 97) hx hb dX10_rowOf_91 (by decide) ?_
      exact W.lret (v := lN r) hx hb hr (fun t9 ht hW => ⟨⟨lN r, (g1_6, g2_7, g3_8), rfl, (by unfold rwo; rw [if_pos (hiff.mp (by omega)), hre, em]; rfl), by show va_P D vwCl _ t9.heap; rw [ht]; exact hP⟩, hS.F ht⟩) hS.2.2 dX10_rowOf_97
  · skip
    have em := pv_s e_18
    have hl : lv_has ls 11 [(9, .int (nI i7)), (8, .int (nI b)), (6, .long (lN r)), (0, .ref mo), (1, .long (lN h)), (3, .long (lN a)), (5, .int (nI k))] := by rw [e_18] at hl; exact hl
    refine lv_iload hx hb dX10_rowOf_18 (lv_at hl 0 rfl) ?_
    refine q_if_lt (a := i7) (tgt := 84) hx hb dX10_rowOf_20 (by decide) (by omega) ?_
    refine lv_aload_n hx hb dX10_rowOf_23 rfl (lv_at hl 3 rfl) ?_
    refine va_get (D := D) (own := RX10) (ref := "FuzzyFensModel") (ci := 9) (v := .ref mt) (C := RX10) (T := TX10) (N := 15) hx hb hts iX10_rowOf_X10 hown hK hP 0 rfl rfl 10 (by decide) (hts (.fieldLink RX10 29 "FuzzyFensModel" "table" "[I") (List.mem_of_getElem? (i := 2) rfl)) (fun _ h9 => h9) rfl dX10_rowOf_24 ?_
    refine lv_bipush (v := nI 11) hx hb dX10_rowOf_27 (by decide) ?_
    refine lv_aload_n hx hb dX10_rowOf_29 rfl (lv_at hl 3 rfl) ?_
    refine va_get (D := D) (own := RX10) (ref := "FuzzyFensModel") (ci := 9) (v := .int (nI (wl h))) (C := RX10) (T := TX10) (N := 15) hx hb hts iX10_rowOf_X10 hown hK hP 0 rfl rfl 8 (by decide) (hts (.fieldLink RX10 56 "FuzzyFensModel" "oneMany" "I") (List.mem_of_getElem? (i := 3) rfl)) (fun _ h9 => h9) rfl dX10_rowOf_30 ?_
    refine q_imul (d := 11 * (wl h)) hx hb dX10_rowOf_33 (by omega) ?_
    refine lv_iload hx hb dX10_rowOf_34 (lv_at hl 0 rfl) ?_
    refine q_iadd (d := 11 * (wl h) + i7) hx hb dX10_rowOf_36 (by omega) ?_
    refine va_iald (D := D) hx hb hK hP 3 2 rfl rfl (vp_in_nI (n := 11 * (wl h) + i7) (N := 121) (by omega) (by decide)) dX10_rowOf_37 ?_
    rw [nI_clamp (n := 11 * (wl h) + i7) (by omega)]
    refine q_cvi (show (g3_8 (11 * (wl h) + i7)) = (nI (hrow h a i7)) from hld _ _ (Nat.le_refl _) (by omega)) ?_
    have hdi := lev_le (ltz h) (ltz a) (wl h) i7
    have hdj : hrow h a i7 ≤ 20 := Nat.le_trans hdi (by omega)
    refine lv_istore (lv' := [(10, .int (nI (hrow h a i7))), (9, .int (nI i7)), (8, .int (nI b)), (6, .long (lN r)), (0, .ref mo), (1, .long (lN h)), (3, .long (lN a)), (5, .int (nI k))]) hx hb dX10_rowOf_38 hl (by decide) rfl (fun ls hl => ?_)
    refine lv_iload hx hb dX10_rowOf_40 (lv_at hl 2 rfl) ?_
    refine q_cut 57 (fun (x : (Nat)) (Hc : Heap) (Lc : List Loc) (ls : Array Slot) (st : List Value) => match x with | b2 => (b2 ≤ 1) ∧ (b2 = 1 ↔ (b = 1 ∨ hrow h a i7 ≤ k)) ∧ H_2 = Hc ∧ locs_3 = Lc ∧ lv_has ls 11 [(10, .int (nI (hrow h a i7))), (9, .int (nI i7)), (8, .int (nI b)), (6, .long (lN r)), (0, .ref mo), (1, .long (lN h)), (3, .long (lN a)), (5, .int (nI k))] ∧ [.int (nI b2)] = st) ?_ ?_
    · clear hl
      rintro b2 Hc Lc ls st hI
      obtain ⟨h3, h4, rfl, rfl, hl, rfl⟩ := hI
      refine lv_istore (lv' := [(8, .int (nI b2)), (10, .int (nI (hrow h a i7))), (9, .int (nI i7)), (6, .long (lN r)), (0, .ref mo), (1, .long (lN h)), (3, .long (lN a)), (5, .int (nI k))]) hx hb dX10_rowOf_57 hl (by decide) rfl (fun ls hl => ?_)
      refine lv_ldc2 (v := 8) hx hb hown (hts (.constantLong RX10 146 (8)) (List.mem_of_getElem? (i := 4) rfl)) dX10_rowOf_59 ?_
      refine q_cvl (show (8 : Int64) = lN 8 by decide) ?_
      refine lv_lload hx hb dX10_rowOf_62 (lv_at hl 3 rfl) ?_
      refine lv_lmul hx hb dX10_rowOf_64 ?_
      refine q_cvl ((lN_mul _ _).trans (congrArg lN (show _ = 8 * r by omega))) ?_
      refine lv_iload hx hb dX10_rowOf_65 (lv_at hl 1 rfl) ?_
      refine lv_iload hx hb dX10_rowOf_67 (lv_at hl 7 rfl) ?_
      refine lv_iconst (v := nI 1) hx hb dX10_rowOf_69 (by decide) ?_
      refine q_iadd (d := k + 1) hx hb dX10_rowOf_70 (by omega) ?_
      refine vp_callSi (W.runS (As := [.int (nI (hrow h a i7)), .int (nI (k + 1))]) (rest := [.long (lN (8 * r))]) ⟨hx, hb, hml, hown, hts⟩ (c_X10_lesser (l := l) (D := D) (a := hrow h a i7) (b := k + 1) (ha := by omega) (hb9 := by omega)) (va_cwS 2 hts gX10_rowOf_X10_lesser rfl rfl rfl (by decide +kernel) ⟨Nat.le_of_ble_eq_true rfl, Nat.le_of_ble_eq_true rfl⟩) ⟨qP_blind, (qP_of (q_Pof (fun _ h => absurd h List.not_mem_nil)) (hK.sub (tys' := []) [] rfl) hNw)⟩ rfl rfl hl.1 rfl (lv_room (Nat.le_of_ble_eq_true rfl)) dX10_rowOf_71 ⟨Nat.le_of_ble_eq_true rfl, Nat.le_of_ble_eq_true rfl⟩) (fun r_9 hr_9 => ?_)
      subst hr_9
      refine lv_i2l (v := lN (min (hrow h a i7) (k + 1))) hx hb dX10_rowOf_74 (nI_l (by omega)) ?_
      refine lv_ladd hx hb dX10_rowOf_75 ?_
      refine q_cvl ((lN_add _ _).trans (congrArg lN (show _ = 8 * r + min (hrow h a i7) (k + 1) by omega))) ?_
      refine lv_lstore (lv' := [(6, .long (lN (8 * r + min (hrow h a i7) (k + 1)))), (8, .int (nI b2)), (10, .int (nI (hrow h a i7))), (9, .int (nI i7)), (0, .ref mo), (1, .long (lN h)), (3, .long (lN a)), (5, .int (nI k))]) hx hb dX10_rowOf_76 hl (by decide) rfl (fun ls hl => ?_)
      refine lv_iinc (v := pin (pv i7)) (lv' := [(9, .int (pin (pv i7))), (6, .long (lN (8 * r + min (hrow h a i7) (k + 1)))), (8, .int (nI b2)), (10, .int (nI (hrow h a i7))), (0, .ref mo), (1, .long (lN h)), (3, .long (lN a)), (5, .int (nI k))]) hx hb dX10_rowOf_78 hl (k := 3) rfl (pv_dec (by omega)) (by decide) rfl (fun ls hl => ?_)
      refine lv_goto (tgt := 18) hx hb dX10_rowOf_81 (by decide) ?_
      exact ih_18 (i7, b2, 8 * r + min (hrow h a i7) (k + 1)) _ _ _ ⟨(by omega), h3, (by rw [h4, hbv]; constructor; (rintro (⟨j, q1, q2, q3⟩ | q4); (exact ⟨j, by omega, q2, q3⟩); (exact ⟨i7, Nat.le_refl _, by omega, q4⟩)); (rintro ⟨j, q1, q2, q3⟩; by_cases e : j = i7; (exact Or.inr (e ▸ q3)); (exact Or.inl ⟨j, by omega, q2, q3⟩))), (by rw [hre, show wl a + 1 - i7 = (wl a + 1 - m) + 1 by omega]; show _ = 8 * rnf _ _ _ (wl a + 1 - m) + min (hrow h a (wl a - (wl a + 1 - m))) (k + 1); rw [show wl a - (wl a + 1 - m) = i7 by omega]), rfl, rfl, (lv_sub hl [0, 2, 1, 4, 5, 6, 7] rfl)⟩ (by show i7 < m; omega)
    · intro hcut_57
      refine q_if_ne (a := b) (tgt := 52) hx hb dX10_rowOf_42 (by decide) (by omega) (fun c_42 => ?_) (fun c_42 => ?_)
      · skip
        refine lv_iconst (v := nI 1) hx hb dX10_rowOf_52 (by decide) ?_
        refine lv_goto (tgt := 57) hx hb dX10_rowOf_53 (by decide) ?_
        exact hcut_57 1 _ _ _ _ ⟨(by omega), (by omega), rfl, rfl, (lv_sub hl [0, 1, 2, 3, 4, 5, 6, 7] rfl), rfl⟩
      · skip
        refine lv_iload hx hb dX10_rowOf_45 (lv_at hl 0 rfl) ?_
        refine lv_iload hx hb dX10_rowOf_47 (lv_at hl 7 rfl) ?_
        refine q_icmp_gt (a := hrow h a i7) (b := k) (tgt := 56) hx hb dX10_rowOf_49 (by decide) (by omega) (by omega) (fun c_49 => ?_) (fun c_49 => ?_)
        · skip
          refine lv_iconst (v := nI 0) hx hb dX10_rowOf_56 (by decide) ?_
          exact hcut_57 0 _ _ _ _ ⟨(by omega), (by omega), rfl, rfl, (lv_sub hl [0, 1, 2, 3, 4, 5, 6, 7] rfl), rfl⟩
        · skip
          refine lv_iconst (v := nI 1) hx hb dX10_rowOf_52 (by decide) ?_
          refine lv_goto (tgt := 57) hx hb dX10_rowOf_53 (by decide) ?_
          exact hcut_57 1 _ _ _ _ ⟨(by omega), (by omega), rfl, rfl, (lv_sub hl [0, 1, 2, 3, 4, 5, 6, 7] rfl), rfl⟩
