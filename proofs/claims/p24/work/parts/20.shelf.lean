set_option maxRecDepth 20000 in
theorem iX0_standsAhead_X0 : ∀ w ∈ wsX00, w ∈ wsX0_standsAhead := by decide +kernel
set_option maxRecDepth 20000 in
theorem iX0_standsAhead_X8 : ∀ w ∈ wsX80, w ∈ wsX0_standsAhead := by decide +kernel
set_option maxHeartbeats 4000000 in
set_option maxRecDepth 100000 in
/-- Entry.standsAhead -/
theorem c_X0_standsAhead (l : Launch) (D : va_G) (e1 : Nat) (w1 : Nat) (p1 : Option Nat) (c1 : Nat) (d1 : Nat) (o1 : Nat) (i1 : Int32) (l1 : Int32) (t1 : Int32) (e2 : Nat) (w2 : Nat) (p2 : Option Nat) (c2 : Nat) (d2 : Nat) (o2 : Nat) (i2 : Int32) (l2 : Int32) (t2 : Int32) (a : Nat) (b : Nat) (hga : gw a) (hgb : gw b) : Met l yX0_standsAhead wsX0_standsAhead { frames := 0, cells := 0, slots := 0, locals := 0 } (va_Pc [.ref e1, .ref e2] (qP D ([(e1, .inr (0, [.ref w1, va_rf p1, .int (nI c1), .int (nI d1), .int (nI o1), .int i1, .int l1, .int t1])), (w1, .inr (7, [.long (lN a), .int (nI (wl a)), .long (lN (al a))])), (e2, .inr (0, [.ref w2, va_rf p2, .int (nI c2), .int (nI d2), .int (nI o2), .int i2, .int l2, .int t2])), (w2, .inr (7, [.long (lN b), .int (nI (wl b)), .long (lN (al b))]))]) [])) (vp_Si (fun rv : Int32 => rv = (if al a < al b then 1 else 0))) 0 0 (fun _ => False) := by
  refine Met.ofW (cc := cX0_standsAhead) (maxL := 2) (ret := (some .boolean)) (by decide) rfl ?_
  intro pM eM s mi9 argsM belowM methM cM sM B hml hv
  obtain ⟨rfl, hR, hK, hNw⟩ := hv
  have hx := B.exec
  have hb := B.bytes
  have hr := B.returns
  have hts := atoms_spec (ws := wsX0_standsAhead) B.pre
  have hown : s.vm.findClass RX0 = some mi9.cls := findClass_of_methodNamed B.named
  have hlocks := B.notSynchronized
  have hS : va_S (fun _ => False) s.heap s.heap [] := va_S.rf
  have hR : va_P D vwCl ([(e1, .inr (0, [.ref w1, va_rf p1, .int (nI c1), .int (nI d1), .int (nI o1), .int i1, .int l1, .int t1])), (w1, .inr (7, [.long (lN a), .int (nI (wl a)), .long (lN (al a))])), (e2, .inr (0, [.ref w2, va_rf p2, .int (nI c2), .int (nI d2), .int (nI o2), .int i2, .int l2, .int t2])), (w2, .inr (7, [.long (lN b), .int (nI (wl b)), .long (lN (al b))]))]) s.heap := hR
  have hl := lv_entry ([.ref e1, .ref e2]) (n := 2) (Nat.le_of_ble_eq_true rfl)
  rw [lg_entry_eq]
  generalize (lg_sl ([.ref e1, .ref e2]) ++ List.replicate (2 - (lg_sl ([.ref e1, .ref e2])).length) Slot.unset).toArray = ls at hl ⊢
  have hl : lv_has ls 2 [(0, .ref e1), (1, .ref e2)] := hl
  have ha := al_lt (gw_wl hga)
  have hb9 := al_lt (gw_wl hgb)
  refine lv_aload_n hx hb dX0_standsAhead_0 rfl (lv_at hl 0 rfl) ?_
  refine va_get (D := D) (own := RX0) (ref := "FuzzyFens$Entry") (ci := 0) (v := .ref w1) (C := RX0) (T := TX0) (N := 8) hx hb hts iX0_standsAhead_X0 hown hK hR 0 rfl rfl 0 (by decide) (hts (.fieldLink RX0 7 "FuzzyFens$Entry" "word" "LFuzzyFens$Word;") (List.mem_of_getElem? (i := 1) rfl)) (fun _ h9 => h9) rfl dX0_standsAhead_1 ?_
  refine va_getN (host := "FuzzyFens") (D := D) (own := RX0) (ref := "FuzzyFens$Word") (ci := 7) (v := .long (lN (al a))) (C := RX8) (T := TX8) (N := 3) hx hb hts iX0_standsAhead_X8 hown hK hR 1 rfl rfl 2 (by decide) (va_Nw.use rfl (hNw.1 ("FuzzyFens$Entry", 34, "FuzzyFens$Word", "alphabetical", "J") (List.mem_of_getElem? (i := 5) rfl))) (fun _ h9 => h9) rfl dX0_standsAhead_4 ?_
  refine lv_aload_n hx hb dX0_standsAhead_7 rfl (lv_at hl 1 rfl) ?_
  refine va_get (D := D) (own := RX0) (ref := "FuzzyFens$Entry") (ci := 0) (v := .ref w2) (C := RX0) (T := TX0) (N := 8) hx hb hts iX0_standsAhead_X0 hown hK hR 2 rfl rfl 0 (by decide) (hts (.fieldLink RX0 7 "FuzzyFens$Entry" "word" "LFuzzyFens$Word;") (List.mem_of_getElem? (i := 1) rfl)) (fun _ h9 => h9) rfl dX0_standsAhead_8 ?_
  refine va_getN (host := "FuzzyFens") (D := D) (own := RX0) (ref := "FuzzyFens$Word") (ci := 7) (v := .long (lN (al b))) (C := RX8) (T := TX8) (N := 3) hx hb hts iX0_standsAhead_X8 hown hK hR 3 rfl rfl 2 (by decide) (va_Nw.use rfl (hNw.1 ("FuzzyFens$Entry", 34, "FuzzyFens$Word", "alphabetical", "J") (List.mem_of_getElem? (i := 5) rfl))) (fun _ h9 => h9) rfl dX0_standsAhead_11 ?_
  refine W.lcmp hx hb dX0_standsAhead_14 ?_
  refine q_lc_ge (a := al a) (b := al b) (tgt := 22) hx hb dX0_standsAhead_15 (by decide) (by omega) (by omega) (fun c_15 => ?_) (fun c_15 => ?_)
  · skip
    refine lv_iconst (v := nI 0) hx hb dX0_standsAhead_22 (by decide) ?_
    exact W.zret (v := nI 0) hx hb hr (by decide) (fun t9 ht _ => ⟨nI 0, rfl, (if_neg (by omega)).symm, ht⟩) (fun _ h => absurd h List.not_mem_nil) dX0_standsAhead_23
  · skip
    refine lv_iconst (v := nI 1) hx hb dX0_standsAhead_18 (by decide) ?_
    refine lv_goto (tgt := 23) hx hb dX0_standsAhead_19 (by decide) ?_
    exact W.zret (v := nI 1) hx hb hr (by decide) (fun t9 ht _ => ⟨nI 1, rfl, (if_pos (by omega)).symm, ht⟩) (fun _ h => absurd h List.not_mem_nil) dX0_standsAhead_23

set_option maxRecDepth 20000 in
theorem iX0_ranksAhead_X0 : ∀ w ∈ wsX00, w ∈ wsX0_ranksAhead := by decide +kernel
set_option maxHeartbeats 4000000 in
set_option maxRecDepth 100000 in
/-- Entry.ranksAhead -/
theorem c_X0_ranksAhead (l : Launch) (D : va_G) (e1 : Nat) (w1 : Nat) (p1 : Option Nat) (c1 : Nat) (d1 : Nat) (o1 : Nat) (i1 : Int32) (l1 : Int32) (q1 : Nat) (e2 : Nat) (w2 : Nat) (p2 : Option Nat) (c2 : Nat) (d2 : Nat) (o2 : Nat) (i2 : Int32) (l2 : Int32) (q2 : Nat) (a : Nat) (b : Nat) (hga : gw a) (hgb : gw b) (hq1 : q1 < 2 ^ 31) (hq2 : q2 < 2 ^ 31) (ho1 : o1 < 2 ^ 31) (ho2 : o2 < 2 ^ 31) : Met l yX0_ranksAhead wsX0_ranksAhead { frames := 1, cells := 0, slots := 0, locals := 21 } (va_Pc [.ref e1, .ref e2] (qP D ([(e1, .inr (0, [.ref w1, va_rf p1, .int (nI c1), .int (nI d1), .int (nI o1), .int i1, .int l1, .int (nI q1)])), (w1, .inr (7, [.long (lN a), .int (nI (wl a)), .long (lN (al a))])), (e2, .inr (0, [.ref w2, va_rf p2, .int (nI c2), .int (nI d2), .int (nI o2), .int i2, .int l2, .int (nI q2)])), (w2, .inr (7, [.long (lN b), .int (nI (wl b)), .long (lN (al b))]))]) [])) (vp_Si (fun rv : Int32 => rv = (if q1 < q2 ∨ (q1 = q2 ∧ (o2 < o1 ∨ (o1 = o2 ∧ al a < al b))) then 1 else 0))) 0 0 (fun _ => False) := by
  refine Met.ofW (cc := cX0_ranksAhead) (maxL := 2) (ret := (some .boolean)) (by decide) rfl ?_
  intro pM eM s mi9 argsM belowM methM cM sM B hml hv
  obtain ⟨rfl, hR, hK, hNw⟩ := hv
  have hx := B.exec
  have hb := B.bytes
  have hr := B.returns
  have hts := atoms_spec (ws := wsX0_ranksAhead) B.pre
  have hown : s.vm.findClass RX0 = some mi9.cls := findClass_of_methodNamed B.named
  have hlocks := B.notSynchronized
  have hS : va_S (fun _ => False) s.heap s.heap [] := va_S.rf
  have hR : va_P D vwCl ([(e1, .inr (0, [.ref w1, va_rf p1, .int (nI c1), .int (nI d1), .int (nI o1), .int i1, .int l1, .int (nI q1)])), (w1, .inr (7, [.long (lN a), .int (nI (wl a)), .long (lN (al a))])), (e2, .inr (0, [.ref w2, va_rf p2, .int (nI c2), .int (nI d2), .int (nI o2), .int i2, .int l2, .int (nI q2)])), (w2, .inr (7, [.long (lN b), .int (nI (wl b)), .long (lN (al b))]))]) s.heap := hR
  have hl := lv_entry ([.ref e1, .ref e2]) (n := 2) (Nat.le_of_ble_eq_true rfl)
  rw [lg_entry_eq]
  generalize (lg_sl ([.ref e1, .ref e2]) ++ List.replicate (2 - (lg_sl ([.ref e1, .ref e2])).length) Slot.unset).toArray = ls at hl ⊢
  have hl : lv_has ls 2 [(0, .ref e1), (1, .ref e2)] := hl
  refine lv_aload_n hx hb dX0_ranksAhead_0 rfl (lv_at hl 0 rfl) ?_
  refine va_get (D := D) (own := RX0) (ref := "FuzzyFens$Entry") (ci := 0) (v := .int (nI q1)) (C := RX0) (T := TX0) (N := 8) hx hb hts iX0_ranksAhead_X0 hown hK hR 0 rfl rfl 7 (by decide) (hts (.fieldLink RX0 24 "FuzzyFens$Entry" "priceToRank" "I") (List.mem_of_getElem? (i := 1) rfl)) (fun _ h9 => h9) rfl dX0_ranksAhead_1 ?_
  refine lv_aload_n hx hb dX0_ranksAhead_4 rfl (lv_at hl 1 rfl) ?_
  refine va_get (D := D) (own := RX0) (ref := "FuzzyFens$Entry") (ci := 0) (v := .int (nI q2)) (C := RX0) (T := TX0) (N := 8) hx hb hts iX0_ranksAhead_X0 hown hK hR 2 rfl rfl 7 (by decide) (hts (.fieldLink RX0 24 "FuzzyFens$Entry" "priceToRank" "I") (List.mem_of_getElem? (i := 1) rfl)) (fun _ h9 => h9) rfl dX0_ranksAhead_5 ?_
  refine q_icmp_eq (a := q1) (b := q2) (tgt := 28) hx hb dX0_ranksAhead_8 (by decide) (by omega) (by omega) (fun c_8 => ?_) (fun c_8 => ?_)
  · skip
    refine lv_aload_n hx hb dX0_ranksAhead_28 rfl (lv_at hl 0 rfl) ?_
    refine va_get (D := D) (own := RX0) (ref := "FuzzyFens$Entry") (ci := 0) (v := .int (nI o1)) (C := RX0) (T := TX0) (N := 8) hx hb hts iX0_ranksAhead_X0 hown hK hR 0 rfl rfl 4 (by decide) (hts (.fieldLink RX0 27 "FuzzyFens$Entry" "occurrences" "I") (List.mem_of_getElem? (i := 2) rfl)) (fun _ h9 => h9) rfl dX0_ranksAhead_29 ?_
    refine lv_aload_n hx hb dX0_ranksAhead_32 rfl (lv_at hl 1 rfl) ?_
    refine va_get (D := D) (own := RX0) (ref := "FuzzyFens$Entry") (ci := 0) (v := .int (nI o2)) (C := RX0) (T := TX0) (N := 8) hx hb hts iX0_ranksAhead_X0 hown hK hR 2 rfl rfl 4 (by decide) (hts (.fieldLink RX0 27 "FuzzyFens$Entry" "occurrences" "I") (List.mem_of_getElem? (i := 2) rfl)) (fun _ h9 => h9) rfl dX0_ranksAhead_33 ?_
    refine q_icmp_eq (a := o1) (b := o2) (tgt := 56) hx hb dX0_ranksAhead_36 (by decide) (by omega) (by omega) (fun c_36 => ?_) (fun c_36 => ?_)
    · skip
      refine lv_aload_n hx hb dX0_ranksAhead_56 rfl (lv_at hl 0 rfl) ?_
      refine lv_aload_n hx hb dX0_ranksAhead_57 rfl (lv_at hl 1 rfl) ?_
      refine vp_callSi (W.runV (As := [.ref e2]) (rest := []) ⟨hx, hb, hml, hown, hts⟩ (c_X0_standsAhead (l := l) (D := D) (e1 := e1) (w1 := w1) (p1 := p1) (c1 := c1) (d1 := d1) (o1 := o1) (i1 := i1) (l1 := l1) (t1 := nI q1) (e2 := e2) (w2 := w2) (p2 := p2) (c2 := c2) (d2 := d2) (o2 := o2) (i2 := i2) (l2 := l2) (t2 := nI q2) (a := a) (b := b) (hga := hga) (hgb := hgb)) (cwV 1 hts gX0_ranksAhead_X0_standsAhead rfl rfl rfl (by decide +kernel) ⟨Nat.le_of_ble_eq_true rfl, Nat.le_of_ble_eq_true rfl⟩) ⟨qP_blind, (va_recv hK hR (ci := 0) (q0 := 0) rfl rfl), (qP_of (hR.sub (ws' := [(e1, .inr (0, [.ref w1, va_rf p1, .int (nI c1), .int (nI d1), .int (nI o1), .int i1, .int l1, .int (nI q1)])), (w1, .inr (7, [.long (lN a), .int (nI (wl a)), .long (lN (al a))])), (e2, .inr (0, [.ref w2, va_rf p2, .int (nI c2), .int (nI d2), .int (nI o2), .int i2, .int l2, .int (nI q2)])), (w2, .inr (7, [.long (lN b), .int (nI (wl b)), .long (lN (al b))]))]) [0, 1, 2, 3] rfl) (hK.sub (tys' := []) [] rfl) hNw)⟩ rfl rfl hl.1 rfl (lv_room (Nat.le_of_ble_eq_true rfl)) dX0_ranksAhead_58 ⟨Nat.le_of_ble_eq_true rfl, Nat.le_of_ble_eq_true rfl⟩) (fun r_1 hr_1 => ?_)
      subst hr_1
      exact W.zret (v := if al a < al b then 1 else 0) hx hb hr (q_narb _) (fun t9 ht _ => ⟨if al a < al b then 1 else 0, rfl, (q_ifeq (by omega)), ht⟩) (fun _ h => absurd h List.not_mem_nil) dX0_ranksAhead_61
    · skip
      refine lv_aload_n hx hb dX0_ranksAhead_39 rfl (lv_at hl 0 rfl) ?_
      refine va_get (D := D) (own := RX0) (ref := "FuzzyFens$Entry") (ci := 0) (v := .int (nI o1)) (C := RX0) (T := TX0) (N := 8) hx hb hts iX0_ranksAhead_X0 hown hK hR 0 rfl rfl 4 (by decide) (hts (.fieldLink RX0 27 "FuzzyFens$Entry" "occurrences" "I") (List.mem_of_getElem? (i := 2) rfl)) (fun _ h9 => h9) rfl dX0_ranksAhead_40 ?_
      refine lv_aload_n hx hb dX0_ranksAhead_43 rfl (lv_at hl 1 rfl) ?_
      refine va_get (D := D) (own := RX0) (ref := "FuzzyFens$Entry") (ci := 0) (v := .int (nI o2)) (C := RX0) (T := TX0) (N := 8) hx hb hts iX0_ranksAhead_X0 hown hK hR 2 rfl rfl 4 (by decide) (hts (.fieldLink RX0 27 "FuzzyFens$Entry" "occurrences" "I") (List.mem_of_getElem? (i := 2) rfl)) (fun _ h9 => h9) rfl dX0_ranksAhead_44 ?_
      refine q_icmp_le (a := o1) (b := o2) (tgt := 54) hx hb dX0_ranksAhead_47 (by decide) (by omega) (by omega) (fun c_47 => ?_) (fun c_47 => ?_)
      · skip
        refine lv_iconst (v := nI 0) hx hb dX0_ranksAhead_54 (by decide) ?_
        exact W.zret (v := nI 0) hx hb hr (by decide) (fun t9 ht _ => ⟨nI 0, rfl, (if_neg (by omega)).symm, ht⟩) (fun _ h => absurd h List.not_mem_nil) dX0_ranksAhead_55
      · skip
        refine lv_iconst (v := nI 1) hx hb dX0_ranksAhead_50 (by decide) ?_
        refine lv_goto (tgt := 55) hx hb dX0_ranksAhead_51 (by decide) ?_
        exact W.zret (v := nI 1) hx hb hr (by decide) (fun t9 ht _ => ⟨nI 1, rfl, (if_pos (by omega)).symm, ht⟩) (fun _ h => absurd h List.not_mem_nil) dX0_ranksAhead_55
  · skip
    refine lv_aload_n hx hb dX0_ranksAhead_11 rfl (lv_at hl 0 rfl) ?_
    refine va_get (D := D) (own := RX0) (ref := "FuzzyFens$Entry") (ci := 0) (v := .int (nI q1)) (C := RX0) (T := TX0) (N := 8) hx hb hts iX0_ranksAhead_X0 hown hK hR 0 rfl rfl 7 (by decide) (hts (.fieldLink RX0 24 "FuzzyFens$Entry" "priceToRank" "I") (List.mem_of_getElem? (i := 1) rfl)) (fun _ h9 => h9) rfl dX0_ranksAhead_12 ?_
    refine lv_aload_n hx hb dX0_ranksAhead_15 rfl (lv_at hl 1 rfl) ?_
    refine va_get (D := D) (own := RX0) (ref := "FuzzyFens$Entry") (ci := 0) (v := .int (nI q2)) (C := RX0) (T := TX0) (N := 8) hx hb hts iX0_ranksAhead_X0 hown hK hR 2 rfl rfl 7 (by decide) (hts (.fieldLink RX0 24 "FuzzyFens$Entry" "priceToRank" "I") (List.mem_of_getElem? (i := 1) rfl)) (fun _ h9 => h9) rfl dX0_ranksAhead_16 ?_
    refine q_icmp_ge (a := q1) (b := q2) (tgt := 26) hx hb dX0_ranksAhead_19 (by decide) (by omega) (by omega) (fun c_19 => ?_) (fun c_19 => ?_)
    · skip
      refine lv_iconst (v := nI 0) hx hb dX0_ranksAhead_26 (by decide) ?_
      exact W.zret (v := nI 0) hx hb hr (by decide) (fun t9 ht _ => ⟨nI 0, rfl, (if_neg (by omega)).symm, ht⟩) (fun _ h => absurd h List.not_mem_nil) dX0_ranksAhead_27
    · skip
      refine lv_iconst (v := nI 1) hx hb dX0_ranksAhead_22 (by decide) ?_
      refine lv_goto (tgt := 27) hx hb dX0_ranksAhead_23 (by decide) ?_
      exact W.zret (v := nI 1) hx hb hr (by decide) (fun t9 ht _ => ⟨nI 1, rfl, (if_pos (by omega)).symm, ht⟩) (fun _ h => absurd h List.not_mem_nil) dX0_ranksAhead_27

set_option maxRecDepth 20000 in
theorem iX5_size_X5 : ∀ w ∈ wsX50, w ∈ wsX5_size := by decide +kernel
set_option maxHeartbeats 4000000 in
set_option maxRecDepth 100000 in
/-- Shelf.size -/
theorem c_X5_size (l : Launch) (D : va_G) (sh : Nat) (ar : Nat) (m : Nat)  : Met l yX5_size wsX5_size { frames := 0, cells := 0, slots := 0, locals := 0 } (va_Pc [.ref sh] (qP D ([(sh, .inr (4, [.ref ar, .int (nI m)]))]) [])) (vp_Si (fun rv : Int32 => rv = nI m)) 0 0 (fun _ => False) := by
  refine Met.ofW (cc := cX5_size) (maxL := 1) (ret := (some .int)) (by decide) rfl ?_
  intro pM eM s mi9 argsM belowM methM cM sM B hml hv
  obtain ⟨rfl, hR, hK, hNw⟩ := hv
  have hx := B.exec
  have hb := B.bytes
  have hr := B.returns
  have hts := atoms_spec (ws := wsX5_size) B.pre
  have hown : s.vm.findClass RX5 = some mi9.cls := findClass_of_methodNamed B.named
  have hlocks := B.notSynchronized
  have hS : va_S (fun _ => False) s.heap s.heap [] := va_S.rf
  have hR : va_P D vwCl ([(sh, .inr (4, [.ref ar, .int (nI m)]))]) s.heap := hR
  have hl := lv_entry ([.ref sh]) (n := 1) (Nat.le_of_ble_eq_true rfl)
  rw [lg_entry_eq]
  generalize (lg_sl ([.ref sh]) ++ List.replicate (1 - (lg_sl ([.ref sh])).length) Slot.unset).toArray = ls at hl ⊢
  have hl : lv_has ls 1 [(0, .ref sh)] := hl
  refine lv_aload_n hx hb dX5_size_0 rfl (lv_at hl 0 rfl) ?_
  refine va_get (D := D) (own := RX5) (ref := "FuzzyFens$Shelf") (ci := 4) (v := .int (nI m)) (C := RX5) (T := TX5) (N := 2) hx hb hts iX5_size_X5 hown hK hR 0 rfl rfl 1 (by decide) (hts (.fieldLink RX5 17 "FuzzyFens$Shelf" "size" "I") (List.mem_of_getElem? (i := 1) rfl)) (fun _ h9 => h9) rfl dX5_size_1 ?_
  exact W.iret (v := nI m) hx hb hr (fun t9 ht _ => ⟨nI m, rfl, rfl, ht⟩) (fun _ h => absurd h List.not_mem_nil) dX5_size_4

set_option maxRecDepth 20000 in
theorem iX5_clear_X5 : ∀ w ∈ wsX50, w ∈ wsX5_clear := by decide +kernel
set_option maxHeartbeats 4000000 in
set_option maxRecDepth 100000 in
/-- Shelf.clear -/
theorem c_X5_clear (l : Launch) (D : va_G) (sz : Nat) (sh : Nat) (ar : Nat) (z : Int32) (hnd : ([sh] ++ []).Nodup)  : Met l yX5_clear wsX5_clear { frames := 0, cells := 0, slots := 0, locals := 0 } (va_Pc [.ref sh] (qW D sz ([]) [(sh, .inr (4, [.ref ar, .int z]))] [])) (va_Qv (fun (uv : Unit) => True) (fun (uv : Unit) (tv : State) => va_P D vwCl [(sh, .inr (4, [.ref ar, .int (nI 0)]))] tv.heap) (va_A [(sh, .inr (4, [.ref ar, .int z]))] sz)) 0 0 (va_A [(sh, .inr (4, [.ref ar, .int z]))] sz) := by
  refine Met.ofW (cc := cX5_clear) (maxL := 1) (ret := none) (by decide) rfl ?_
  intro pM eM s mi9 argsM belowM methM cM sM B hml hv
  obtain ⟨rfl, hsz, hR0, hP, hK, hNw⟩ := hv
  have hx := B.exec
  have hb := B.bytes
  have hr := B.returns
  have hts := atoms_spec (ws := wsX5_clear) B.pre
  have hown : s.vm.findClass RX5 = some mi9.cls := findClass_of_methodNamed B.named
  have hlocks := B.notSynchronized
  subst hsz
  have hna := q_na (RW := [(sh, .inr (4, [.ref ar, .int z]))]) (RO := []) hnd rfl rfl hR0
  have hD := q_D (RW := [(sh, .inr (4, [.ref ar, .int z]))]) (sz := s.heap.size) hnd rfl
  have hA : ∀ q : Nat, s.heap.size ≤ q → va_A [(sh, .inr (4, [.ref ar, .int z]))] s.heap.size q := fun q h => Or.inr h
  generalize hAe : va_A [(sh, .inr (4, [.ref ar, .int z]))] s.heap.size = A at hna hD hA ⊢
  have hS : va_S A s.heap s.heap [] := va_S.rf
  have hR := hR0
  have hP : va_P D vwCl [(sh, .inr (4, [.ref ar, .int z]))] s.heap := hP
  have hl := lv_entry ([.ref sh]) (n := 1) (Nat.le_of_ble_eq_true rfl)
  rw [lg_entry_eq]
  generalize (lg_sl ([.ref sh]) ++ List.replicate (1 - (lg_sl ([.ref sh])).length) Slot.unset).toArray = ls at hl ⊢
  have hl : lv_has ls 1 [(0, .ref sh)] := hl
  refine lv_aload_n hx hb dX5_clear_0 rfl (lv_at hl 0 rfl) ?_
  refine lv_iconst (v := nI 0) hx hb dX5_clear_1 (by decide) ?_
  refine va_put (D := D) (ci := 4) (v := .int (nI 0)) (ty := .int) (C := RX5) (T := TX5) (N := 2) hx hb hts iX5_clear_X5 tyX5 tyX5_ok nmX5 hown hK hP hD hS 0 rfl rfl 1 (by decide) (hts (.fieldLink RX5 17 "FuzzyFens$Shelf" "size" "I") (List.mem_of_getElem? (i := 1) rfl)) (fun _ h9 => h9) rfl (by decide +kernel) rfl rfl (Nat.le_of_ble_eq_true rfl) dX5_clear_2 (fun H_1 locs_2 hP hD hS => ?_)
  have hP : va_P D vwCl [(sh, .inr (4, [.ref ar, .int (nI 0)]))] H_1 := hP
  have hD : va_D A [(sh, .inr (4, [.ref ar, .int (nI 0)]))] := hD
  have hR := q_ro hR0 hna hS
  exact W.vret hx hb hr (fun t9 ht hW => ⟨⟨(), rfl, trivial, by show va_P D vwCl _ t9.heap; rw [ht]; exact hP⟩, hS.F ht⟩) hS.2.2 dX5_clear_5

set_option maxRecDepth 20000 in
theorem iX5_at_X5 : ∀ w ∈ wsX50, w ∈ wsX5_at := by decide +kernel
set_option maxHeartbeats 4000000 in
set_option maxRecDepth 100000 in
/-- Shelf.at -/
theorem c_X5_at (l : Launch) (D : va_G) (sh : Nat) (ar : Nat) (cS : ClassId) (f : Nat → Option Nat) (m : Nat) (i : Nat) (hi : i < m) (hm : m ≤ 40) : Met l yX5_at wsX5_at { frames := 0, cells := 0, slots := 0, locals := 0 } (va_Pc [.ref sh, .int (nI i)] (qP D ([(sh, .inr (4, [.ref ar, .int (nI m)])), (ar, .inl (cS, 40, .inr (.inr (.inr (.inr f)))))]) [(cS, .object "FuzzyFens$Entry")])) (va_Sq (fun rv : Option Nat => rv = f i)) 0 0 (fun _ => False) := by
  refine Met.ofW (cc := cX5_at) (maxL := 2) (ret := (some (.object "FuzzyFens$Entry"))) (by decide) rfl ?_
  intro pM eM s mi9 argsM belowM methM cM sM B hml hv
  obtain ⟨rfl, hR, hK, hNw⟩ := hv
  have hx := B.exec
  have hb := B.bytes
  have hr := B.returns
  have hts := atoms_spec (ws := wsX5_at) B.pre
  have hown : s.vm.findClass RX5 = some mi9.cls := findClass_of_methodNamed B.named
  have hlocks := B.notSynchronized
  have hS : va_S (fun _ => False) s.heap s.heap [] := va_S.rf
  have hR : va_P D vwCl ([(sh, .inr (4, [.ref ar, .int (nI m)])), (ar, .inl (cS, 40, .inr (.inr (.inr (.inr f)))))]) s.heap := hR
  have hl := lv_entry ([.ref sh, .int (nI i)]) (n := 2) (Nat.le_of_ble_eq_true rfl)
  rw [lg_entry_eq]
  generalize (lg_sl ([.ref sh, .int (nI i)]) ++ List.replicate (2 - (lg_sl ([.ref sh, .int (nI i)])).length) Slot.unset).toArray = ls at hl ⊢
  have hl : lv_has ls 2 [(0, .ref sh), (1, .int (nI i))] := hl
  refine lv_iload_n hx hb dX5_at_0 rfl (lv_at hl 1 rfl) ?_
  refine q_if_lt (a := i) (tgt := 30) hx hb dX5_at_1 (by decide) (by omega) ?_
  refine lv_iload_n hx hb dX5_at_4 rfl (lv_at hl 1 rfl) ?_
  refine lv_aload_n hx hb dX5_at_5 rfl (lv_at hl 0 rfl) ?_
  refine va_get (D := D) (own := RX5) (ref := "FuzzyFens$Shelf") (ci := 4) (v := .int (nI m)) (C := RX5) (T := TX5) (N := 2) hx hb hts iX5_at_X5 hown hK hR 0 rfl rfl 1 (by decide) (hts (.fieldLink RX5 17 "FuzzyFens$Shelf" "size" "I") (List.mem_of_getElem? (i := 1) rfl)) (fun _ h9 => h9) rfl dX5_at_6 ?_
  refine q_icmp_ge (a := i) (b := m) (tgt := 30) hx hb dX5_at_9 (by decide) (by omega) (by omega) (fun c_9 => False.elim (by omega)) (fun c_9 => ?_)
  refine lv_iload_n hx hb dX5_at_12 rfl (lv_at hl 1 rfl) ?_
  refine lv_aload_n hx hb dX5_at_13 rfl (lv_at hl 0 rfl) ?_
  refine va_get (D := D) (own := RX5) (ref := "FuzzyFens$Shelf") (ci := 4) (v := .ref ar) (C := RX5) (T := TX5) (N := 2) hx hb hts iX5_at_X5 hown hK hR 0 rfl rfl 0 (by decide) (hts (.fieldLink RX5 11 "FuzzyFens$Shelf" "entries" "[LFuzzyFens$Entry;") (List.mem_of_getElem? (i := 2) rfl)) (fun _ h9 => h9) rfl dX5_at_14 ?_
  refine va_alen (D := D) (v := nI 40) hx hb hK hR 1 0 rfl rfl rfl dX5_at_17 ?_
  refine q_icmp_ge (a := i) (b := 40) (tgt := 30) hx hb dX5_at_18 (by decide) (by omega) (by omega) (fun c_18 => False.elim (by omega)) (fun c_18 => ?_)
  refine lv_aload_n hx hb dX5_at_21 rfl (lv_at hl 0 rfl) ?_
  refine va_get (D := D) (own := RX5) (ref := "FuzzyFens$Shelf") (ci := 4) (v := .ref ar) (C := RX5) (T := TX5) (N := 2) hx hb hts iX5_at_X5 hown hK hR 0 rfl rfl 0 (by decide) (hts (.fieldLink RX5 11 "FuzzyFens$Shelf" "entries" "[LFuzzyFens$Entry;") (List.mem_of_getElem? (i := 2) rfl)) (fun _ h9 => h9) rfl dX5_at_22 ?_
  refine lv_iload_n hx hb dX5_at_25 rfl (lv_at hl 1 rfl) ?_
  refine va_aldq (D := D) hx hb hK hR 1 0 rfl rfl (vp_in_nI (n := i) (N := 40) (by omega) (by decide)) dX5_at_26 ?_
  rw [nI_clamp (n := i) (by omega)]
  refine lv_goto (tgt := 31) hx hb dX5_at_27 (by decide) ?_
  exact W.aret (v := va_rf (f i)) hx hb hr (Or.inl ⟨_, rfl⟩) (va_rf_or _) (fun t9 ht _ => ⟨f i, rfl, rfl, ht⟩) (fun _ h => absurd h List.not_mem_nil) dX5_at_31

set_option maxHeartbeats 4000000 in
set_option maxRecDepth 100000 in
/-- Shelf.at, ahead -/
theorem c_X5_at_neg (l : Launch) (D : va_G) (sh : Nat) (ar : Nat) (cS : ClassId) (f : Nat → Option Nat) (m : Nat) (x9 : Int32) (hneg : x9 < 0) : Met l yX5_at wsX5_at { frames := 0, cells := 0, slots := 0, locals := 0 } (va_Pc [.ref sh, .int x9] (qP D ([(sh, .inr (4, [.ref ar, .int (nI m)])), (ar, .inl (cS, 40, .inr (.inr (.inr (.inr f)))))]) [(cS, .object "FuzzyFens$Entry")])) (va_Sq (fun rv : Option Nat => rv = none)) 0 0 (fun _ => False) := by
  refine Met.ofW (cc := cX5_at) (maxL := 2) (ret := (some (.object "FuzzyFens$Entry"))) (by decide) rfl ?_
  intro pM eM s mi9 argsM belowM methM cM sM B hml hv
  obtain ⟨rfl, hR, hK, hNw⟩ := hv
  have hx := B.exec
  have hb := B.bytes
  have hr := B.returns
  have hts := atoms_spec (ws := wsX5_at) B.pre
  have hown : s.vm.findClass RX5 = some mi9.cls := findClass_of_methodNamed B.named
  have hlocks := B.notSynchronized
  have hS : va_S (fun _ => False) s.heap s.heap [] := va_S.rf
  have hR : va_P D vwCl ([(sh, .inr (4, [.ref ar, .int (nI m)])), (ar, .inl (cS, 40, .inr (.inr (.inr (.inr f)))))]) s.heap := hR
  have hl := lv_entry ([.ref sh, .int x9]) (n := 2) (Nat.le_of_ble_eq_true rfl)
  rw [lg_entry_eq]
  generalize (lg_sl ([.ref sh, .int x9]) ++ List.replicate (2 - (lg_sl ([.ref sh, .int x9])).length) Slot.unset).toArray = ls at hl ⊢
  have hl : lv_has ls 2 [(0, .ref sh), (1, .int x9)] := hl
  refine lv_iload_n hx hb dX5_at_0 rfl (lv_at hl 1 rfl) ?_
  refine lv_if_lt (tgt := 30) hx hb dX5_at_1 (by decide) (fun c_1 => ?_) (fun c_1 => False.elim (by exact c_1 hneg))
  refine lv_null hx hb dX5_at_30 ?_
  exact W.aret (v := .null) hx hb hr (Or.inl ⟨_, rfl⟩) (Or.inl rfl) (fun t9 ht _ => ⟨none, rfl, rfl, ht⟩) (fun _ h => absurd h List.not_mem_nil) dX5_at_31

set_option maxRecDepth 20000 in
theorem iX5_at_hi_X5 : ∀ w ∈ wsX50, w ∈ wsX5_at := by decide +kernel
set_option maxHeartbeats 4000000 in
set_option maxRecDepth 100000 in
/-- Shelf.at, behind -/
theorem c_X5_at_hi (l : Launch) (D : va_G) (sh : Nat) (ar : Nat) (cS : ClassId) (f : Nat → Option Nat) (m : Nat) (x9 : Int32) (hhi : nI m ≤ x9) : Met l yX5_at wsX5_at { frames := 0, cells := 0, slots := 0, locals := 0 } (va_Pc [.ref sh, .int x9] (qP D ([(sh, .inr (4, [.ref ar, .int (nI m)])), (ar, .inl (cS, 40, .inr (.inr (.inr (.inr f)))))]) [(cS, .object "FuzzyFens$Entry")])) (va_Sq (fun rv : Option Nat => rv = none)) 0 0 (fun _ => False) := by
  refine Met.ofW (cc := cX5_at) (maxL := 2) (ret := (some (.object "FuzzyFens$Entry"))) (by decide) rfl ?_
  intro pM eM s mi9 argsM belowM methM cM sM B hml hv
  obtain ⟨rfl, hR, hK, hNw⟩ := hv
  have hx := B.exec
  have hb := B.bytes
  have hr := B.returns
  have hts := atoms_spec (ws := wsX5_at) B.pre
  have hown : s.vm.findClass RX5 = some mi9.cls := findClass_of_methodNamed B.named
  have hlocks := B.notSynchronized
  have hS : va_S (fun _ => False) s.heap s.heap [] := va_S.rf
  have hR : va_P D vwCl ([(sh, .inr (4, [.ref ar, .int (nI m)])), (ar, .inl (cS, 40, .inr (.inr (.inr (.inr f)))))]) s.heap := hR
  have hl := lv_entry ([.ref sh, .int x9]) (n := 2) (Nat.le_of_ble_eq_true rfl)
  rw [lg_entry_eq]
  generalize (lg_sl ([.ref sh, .int x9]) ++ List.replicate (2 - (lg_sl ([.ref sh, .int x9])).length) Slot.unset).toArray = ls at hl ⊢
  have hl : lv_has ls 2 [(0, .ref sh), (1, .int x9)] := hl
  refine lv_iload_n hx hb dX5_at_0 rfl (lv_at hl 1 rfl) ?_
  refine lv_if_lt (tgt := 30) hx hb dX5_at_1 (by decide) (fun c_1 => ?_) (fun c_1 => ?_)
  · skip
    refine lv_null hx hb dX5_at_30 ?_
    exact W.aret (v := .null) hx hb hr (Or.inl ⟨_, rfl⟩) (Or.inl rfl) (fun t9 ht _ => ⟨none, rfl, rfl, ht⟩) (fun _ h => absurd h List.not_mem_nil) dX5_at_31
  · skip
    refine lv_iload_n hx hb dX5_at_4 rfl (lv_at hl 1 rfl) ?_
    refine lv_aload_n hx hb dX5_at_5 rfl (lv_at hl 0 rfl) ?_
    refine va_get (D := D) (own := RX5) (ref := "FuzzyFens$Shelf") (ci := 4) (v := .int (nI m)) (C := RX5) (T := TX5) (N := 2) hx hb hts iX5_at_hi_X5 hown hK hR 0 rfl rfl 1 (by decide) (hts (.fieldLink RX5 17 "FuzzyFens$Shelf" "size" "I") (List.mem_of_getElem? (i := 1) rfl)) (fun _ h9 => h9) rfl dX5_at_6 ?_
    refine lv_icmp_ge (tgt := 30) hx hb dX5_at_9 (by decide) (fun c_9 => ?_) (fun c_9 => False.elim (by exact c_9 hhi))
    refine lv_null hx hb dX5_at_30 ?_
    exact W.aret (v := .null) hx hb hr (Or.inl ⟨_, rfl⟩) (Or.inl rfl) (fun t9 ht _ => ⟨none, rfl, rfl, ht⟩) (fun _ h => absurd h List.not_mem_nil) dX5_at_31

set_option maxRecDepth 20000 in
theorem iX5_insert_X5 : ∀ w ∈ wsX50, w ∈ wsX5_insert := by decide +kernel
set_option maxHeartbeats 4000000 in
set_option maxRecDepth 100000 in
/-- Shelf.insert -/
theorem c_X5_insert (l : Launch) (D : va_G) (sz : Nat) (sh : Nat) (ar : Nat) (cS : ClassId) (f : Nat → Option Nat) (m : Nat) (ki : Nat → Nat) (pl : Nat) (ke : Nat) (ea : Nat → Nat) (wa : Nat → Nat) (pf : Nat → Option Nat) (cn : Nat → Nat) (dp : Nat → Nat) (oc : Nat → Nat) (ic : Nat → Int32) (lf : Nat → Int32) (pt : Nat → Int32) (wd : Nat → Nat) (n : Nat) (hnd : ([sh, ar] ++ ([] ++ (rg ea n ++ rg wa n))).Nodup) (hpl : pl ≤ m) (hm : m < 40) (hke : ke < n) (hf : ∀ j, j < m → f j = some (ea (ki j))) (hki : ∀ j, j < m → ki j < n) : Met l yX5_insert wsX5_insert { frames := 0, cells := 0, slots := 0, locals := 0 } (va_Pc [.ref sh, .int (nI pl), .ref (ea ke)] (qW D sz ([] ++ (EW ea wa pf cn dp oc ic lf pt n ++ WW wa wd n)) [(sh, .inr (4, [.ref ar, .int (nI m)])), (ar, .inl (cS, 40, .inr (.inr (.inr (.inr f)))))] [(cS, .object "FuzzyFens$Entry")])) (va_Qv (fun (uv : (Nat → Option Nat)) => ∀ j, j < m + 1 → uv j = some (ea (insF ki pl ke j))) (fun (uv : (Nat → Option Nat)) (tv : State) => va_P D vwCl [(sh, .inr (4, [.ref ar, .int (nI (m + 1))])), (ar, .inl (cS, 40, .inr (.inr (.inr (.inr uv)))))] tv.heap) (va_A [(sh, .inr (4, [.ref ar, .int (nI m)])), (ar, .inl (cS, 40, .inr (.inr (.inr (.inr f)))))] sz)) 0 0 (va_A [(sh, .inr (4, [.ref ar, .int (nI m)])), (ar, .inl (cS, 40, .inr (.inr (.inr (.inr f)))))] sz) := by
  refine Met.ofW (cc := cX5_insert) (maxL := 4) (ret := none) (by decide) rfl ?_
  intro pM eM s mi9 argsM belowM methM cM sM B hml hv
  obtain ⟨rfl, hsz, hR0, hP, hK, hNw⟩ := hv
  have hx := B.exec
  have hb := B.bytes
  have hr := B.returns
  have hts := atoms_spec (ws := wsX5_insert) B.pre
  have hown : s.vm.findClass RX5 = some mi9.cls := findClass_of_methodNamed B.named
  have hlocks := B.notSynchronized
  subst hsz
  have hna := q_na (RW := [(sh, .inr (4, [.ref ar, .int (nI m)])), (ar, .inl (cS, 40, .inr (.inr (.inr (.inr f)))))]) (RO := [] ++ (EW ea wa pf cn dp oc ic lf pt n ++ WW wa wd n)) hnd rfl (by rw [List.map_append, List.map_append, EW_fst, WW_fst]; rfl) hR0
  have hD := q_D (RW := [(sh, .inr (4, [.ref ar, .int (nI m)])), (ar, .inl (cS, 40, .inr (.inr (.inr (.inr f)))))]) (sz := s.heap.size) hnd rfl
  have hA : ∀ q : Nat, s.heap.size ≤ q → va_A [(sh, .inr (4, [.ref ar, .int (nI m)])), (ar, .inl (cS, 40, .inr (.inr (.inr (.inr f)))))] s.heap.size q := fun q h => Or.inr h
  generalize hAe : va_A [(sh, .inr (4, [.ref ar, .int (nI m)])), (ar, .inl (cS, 40, .inr (.inr (.inr (.inr f)))))] s.heap.size = A at hna hD hA ⊢
  have hS : va_S A s.heap s.heap [] := va_S.rf
  have hR := hR0
  have hP : va_P D vwCl [(sh, .inr (4, [.ref ar, .int (nI m)])), (ar, .inl (cS, 40, .inr (.inr (.inr (.inr f)))))] s.heap := hP
  have hl := lv_entry ([.ref sh, .int (nI pl), .ref (ea ke)]) (n := 4) (Nat.le_of_ble_eq_true rfl)
  rw [lg_entry_eq]
  generalize (lg_sl ([.ref sh, .int (nI pl), .ref (ea ke)]) ++ List.replicate (4 - (lg_sl ([.ref sh, .int (nI pl), .ref (ea ke)])).length) Slot.unset).toArray = ls at hl ⊢
  have hl : lv_has ls 4 [(0, .ref sh), (1, .int (nI pl)), (2, .ref (ea ke))] := hl
  refine lv_iload_n hx hb dX5_insert_0 rfl (lv_at hl 1 rfl) ?_
  refine q_if_lt (a := pl) (tgt := 24) hx hb dX5_insert_1 (by decide) (by omega) ?_
  refine lv_iload_n hx hb dX5_insert_4 rfl (lv_at hl 1 rfl) ?_
  refine lv_aload_n hx hb dX5_insert_5 rfl (lv_at hl 0 rfl) ?_
  refine va_get (D := D) (own := RX5) (ref := "FuzzyFens$Shelf") (ci := 4) (v := .int (nI m)) (C := RX5) (T := TX5) (N := 2) hx hb hts iX5_insert_X5 hown hK hP 0 rfl rfl 1 (by decide) (hts (.fieldLink RX5 17 "FuzzyFens$Shelf" "size" "I") (List.mem_of_getElem? (i := 1) rfl)) (fun _ h9 => h9) rfl dX5_insert_6 ?_
  refine q_icmp_gt (a := pl) (b := m) (tgt := 24) hx hb dX5_insert_9 (by decide) (by omega) (by omega) (fun c_9 => False.elim (by omega)) (fun c_9 => ?_)
  refine lv_aload_n hx hb dX5_insert_12 rfl (lv_at hl 0 rfl) ?_
  refine va_get (D := D) (own := RX5) (ref := "FuzzyFens$Shelf") (ci := 4) (v := .int (nI m)) (C := RX5) (T := TX5) (N := 2) hx hb hts iX5_insert_X5 hown hK hP 0 rfl rfl 1 (by decide) (hts (.fieldLink RX5 17 "FuzzyFens$Shelf" "size" "I") (List.mem_of_getElem? (i := 1) rfl)) (fun _ h9 => h9) rfl dX5_insert_13 ?_
  refine lv_aload_n hx hb dX5_insert_16 rfl (lv_at hl 0 rfl) ?_
  refine va_get (D := D) (own := RX5) (ref := "FuzzyFens$Shelf") (ci := 4) (v := .ref ar) (C := RX5) (T := TX5) (N := 2) hx hb hts iX5_insert_X5 hown hK hP 0 rfl rfl 0 (by decide) (hts (.fieldLink RX5 11 "FuzzyFens$Shelf" "entries" "[LFuzzyFens$Entry;") (List.mem_of_getElem? (i := 2) rfl)) (fun _ h9 => h9) rfl dX5_insert_17 ?_
  refine va_alen (D := D) (v := nI 40) hx hb hK hP 1 0 rfl rfl rfl dX5_insert_20 ?_
  refine q_icmp_lt (a := m) (b := 40) (tgt := 25) hx hb dX5_insert_21 (by decide) (by omega) (by omega) (fun c_21 => ?_) (fun c_21 => False.elim (by omega))
  refine lv_aload_n hx hb dX5_insert_25 rfl (lv_at hl 0 rfl) ?_
  refine va_get (D := D) (own := RX5) (ref := "FuzzyFens$Shelf") (ci := 4) (v := .int (nI m)) (C := RX5) (T := TX5) (N := 2) hx hb hts iX5_insert_X5 hown hK hP 0 rfl rfl 1 (by decide) (hts (.fieldLink RX5 17 "FuzzyFens$Shelf" "size" "I") (List.mem_of_getElem? (i := 1) rfl)) (fun _ h9 => h9) rfl dX5_insert_26 ?_
  refine lv_istore_n (lv' := [(3, .int (nI m)), (0, .ref sh), (1, .int (nI pl)), (2, .ref (ea ke))]) hx hb dX5_insert_29 rfl hl (by decide) rfl (fun ls hl => ?_)
  refine q_loop (fun (x : (Nat) × (Nat → Option Nat)) (H : Heap) (locs : List Loc) (ls : Array Slot) => match x with | (i, f1) => (pl ≤ i ∧ i ≤ m) ∧ (∀ j, j < i → f1 j = f j) ∧ (∀ j, i < j → j ≤ m → f1 j = f (j - 1)) ∧ va_P D vwCl [(sh, .inr (4, [.ref ar, .int (nI m)])), (ar, .inl (cS, 40, .inr (.inr (.inr (.inr f1)))))] H ∧ va_D A [(sh, .inr (4, [.ref ar, .int (nI m)])), (ar, .inl (cS, 40, .inr (.inr (.inr (.inr f1)))))] ∧ va_S A s.heap H locs ∧ lv_has ls 4 [(3, .int (nI i)), (0, .ref sh), (1, .int (nI pl)), (2, .ref (ea ke))]) (fun (x : (Nat) × (Nat → Option Nat)) => match x with | (i, f1) => i) (m, f) ⟨(by omega), (fun j _ => rfl), (fun j _ _ => by omega), hP, hD, hS, (lv_sub hl [0, 1, 2, 3] rfl)⟩ ?_
  clear hl
  clear hP hD hS
  rintro ⟨i, f1⟩ H locs ls hI ih_30
  obtain ⟨hi, h1, h2, hP, hD, hS, hl⟩ := hI
  have hR := q_ro hR0 hna hS
  refine lv_iload_n hx hb dX5_insert_30 rfl (lv_at hl 0 rfl) ?_
  refine lv_iload_n hx hb dX5_insert_31 rfl (lv_at hl 2 rfl) ?_
  refine q_icmp_le (a := i) (b := pl) (tgt := 55) hx hb dX5_insert_32 (by decide) (by omega) (by omega) (fun c_32 => ?_) (fun c_32 => ?_)
  · skip
    refine lv_aload_n hx hb dX5_insert_55 rfl (lv_at hl 1 rfl) ?_
    refine va_get (D := D) (own := RX5) (ref := "FuzzyFens$Shelf") (ci := 4) (v := .ref ar) (C := RX5) (T := TX5) (N := 2) hx hb hts iX5_insert_X5 hown hK hP 0 rfl rfl 0 (by decide) (hts (.fieldLink RX5 11 "FuzzyFens$Shelf" "entries" "[LFuzzyFens$Entry;") (List.mem_of_getElem? (i := 2) rfl)) (fun _ h9 => h9) rfl dX5_insert_56 ?_
    refine lv_iload_n hx hb dX5_insert_59 rfl (lv_at hl 2 rfl) ?_
    refine lv_aload_n hx hb dX5_insert_60 rfl (lv_at hl 3 rfl) ?_
    refine va_astqM (D := D) hx hb hK hP hD hS 1 0 rfl rfl (E_any hK (E_at hR ke hke)) (vp_in_nI (n := pl) (N := 40) (by omega) (by decide)) dX5_insert_61 (fun H_1 locs_2 hP hD hS => ?_)
    rw [nI_clamp (n := pl) (by omega)] at hP hD
    have hP : va_P D vwCl [(sh, .inr (4, [.ref ar, .int (nI m)])), (ar, .inl (cS, 40, .inr (.inr (.inr (.inr (va_up f1 pl (some (ea ke))))))))] H_1 := hP
    have hD : va_D A [(sh, .inr (4, [.ref ar, .int (nI m)])), (ar, .inl (cS, 40, .inr (.inr (.inr (.inr (va_up f1 pl (some (ea ke))))))))] := hD
    have hR := q_ro hR0 hna hS
    refine lv_aload_n hx hb dX5_insert_62 rfl (lv_at hl 1 rfl) ?_
    refine lv_dup hx hb dX5_insert_63 rfl ?_
    refine va_get (D := D) (own := RX5) (ref := "FuzzyFens$Shelf") (ci := 4) (v := .int (nI m)) (C := RX5) (T := TX5) (N := 2) hx hb hts iX5_insert_X5 hown hK hP 0 rfl rfl 1 (by decide) (hts (.fieldLink RX5 17 "FuzzyFens$Shelf" "size" "I") (List.mem_of_getElem? (i := 1) rfl)) (fun _ h9 => h9) rfl dX5_insert_64 ?_
    refine lv_iconst (v := nI 1) hx hb dX5_insert_67 (by decide) ?_
    refine q_iadd (d := m + 1) hx hb dX5_insert_68 (by omega) ?_
    refine va_put (D := D) (ci := 4) (v := .int (nI (m + 1))) (ty := .int) (C := RX5) (T := TX5) (N := 2) hx hb hts iX5_insert_X5 tyX5 tyX5_ok nmX5 hown hK hP hD hS 0 rfl rfl 1 (by decide) (hts (.fieldLink RX5 17 "FuzzyFens$Shelf" "size" "I") (List.mem_of_getElem? (i := 1) rfl)) (fun _ h9 => h9) rfl (by decide +kernel) rfl rfl (Nat.le_of_ble_eq_true rfl) dX5_insert_69 (fun H_3 locs_4 hP hD hS => ?_)
    have hP : va_P D vwCl [(sh, .inr (4, [.ref ar, .int (nI (m + 1))])), (ar, .inl (cS, 40, .inr (.inr (.inr (.inr (va_up f1 pl (some (ea ke))))))))] H_3 := hP
    have hD : va_D A [(sh, .inr (4, [.ref ar, .int (nI (m + 1))])), (ar, .inl (cS, 40, .inr (.inr (.inr (.inr (va_up f1 pl (some (ea ke))))))))] := hD
    have hR := q_ro hR0 hna hS
    exact W.vret hx hb hr (fun t9 ht hW => ⟨⟨va_up f1 pl (some (ea ke)), rfl, (by intro j hj; unfold insF; by_cases e1 : j < pl; (rw [if_pos e1, q_upn (by omega), h1 j (by omega)]; exact hf j (by omega)); by_cases e2 : j = pl; (rw [if_neg e1, if_pos e2, e2, q_ups]); (rw [if_neg e1, if_neg e2, q_upn e2, h2 j (by omega) (by omega)]; exact hf _ (by omega))), by show va_P D vwCl _ t9.heap; rw [ht]; exact hP⟩, hS.F ht⟩) hS.2.2 dX5_insert_72
  · skip
    refine lv_aload_n hx hb dX5_insert_35 rfl (lv_at hl 1 rfl) ?_
    refine va_get (D := D) (own := RX5) (ref := "FuzzyFens$Shelf") (ci := 4) (v := .ref ar) (C := RX5) (T := TX5) (N := 2) hx hb hts iX5_insert_X5 hown hK hP 0 rfl rfl 0 (by decide) (hts (.fieldLink RX5 11 "FuzzyFens$Shelf" "entries" "[LFuzzyFens$Entry;") (List.mem_of_getElem? (i := 2) rfl)) (fun _ h9 => h9) rfl dX5_insert_36 ?_
    refine lv_iload_n hx hb dX5_insert_39 rfl (lv_at hl 0 rfl) ?_
    refine lv_aload_n hx hb dX5_insert_40 rfl (lv_at hl 1 rfl) ?_
    refine va_get (D := D) (own := RX5) (ref := "FuzzyFens$Shelf") (ci := 4) (v := .ref ar) (C := RX5) (T := TX5) (N := 2) hx hb hts iX5_insert_X5 hown hK hP 0 rfl rfl 0 (by decide) (hts (.fieldLink RX5 11 "FuzzyFens$Shelf" "entries" "[LFuzzyFens$Entry;") (List.mem_of_getElem? (i := 2) rfl)) (fun _ h9 => h9) rfl dX5_insert_41 ?_
    refine lv_iload_n hx hb dX5_insert_44 rfl (lv_at hl 0 rfl) ?_
    refine lv_iconst (v := nI 1) hx hb dX5_insert_45 (by decide) ?_
    refine q_isub (d := i - 1) hx hb dX5_insert_46 (by omega) ?_
    refine va_aldq (D := D) hx hb hK hP 1 0 rfl rfl (vp_in_nI (n := i - 1) (N := 40) (by omega) (by decide)) dX5_insert_47 ?_
    rw [nI_clamp (n := i - 1) (by omega)]
    have e9 : f1 (i - 1) = some (ea (ki (i - 1))) := by rw [h1 _ (by omega)]; exact hf _ (by omega)
    have hk9 := hki (i - 1) (by omega)
    refine q_cvv (show va_rf (f1 (i - 1)) = .ref (ea (ki (i - 1))) from (by rw [e9]; rfl)) ?_
    refine va_astqM (D := D) hx hb hK hP hD hS 1 0 rfl rfl (E_any hK (E_at hR (ki (i - 1)) hk9)) (vp_in_nI (n := i) (N := 40) (by omega) (by decide)) dX5_insert_48 (fun H_5 locs_6 hP hD hS => ?_)
    rw [nI_clamp (n := i) (by omega)] at hP hD
    have hP : va_P D vwCl [(sh, .inr (4, [.ref ar, .int (nI m)])), (ar, .inl (cS, 40, .inr (.inr (.inr (.inr (va_up f1 i (some (ea (ki (i - 1))))))))))] H_5 := hP
    have hD : va_D A [(sh, .inr (4, [.ref ar, .int (nI m)])), (ar, .inl (cS, 40, .inr (.inr (.inr (.inr (va_up f1 i (some (ea (ki (i - 1))))))))))] := hD
    have hR := q_ro hR0 hna hS
    refine lv_iinc (v := nI (i - 1)) (lv' := [(3, .int (nI (i - 1))), (0, .ref sh), (1, .int (nI pl)), (2, .ref (ea ke))]) hx hb dX5_insert_49 hl (k := 0) rfl (by rw [show Int32.ofInt (-1) = -(nI 1) from by decide, ← Int32.sub_eq_add_neg, pk_sub (by omega)]; try (congr 1; omega)) (by decide) rfl (fun ls hl => ?_)
    refine lv_goto (tgt := 30) hx hb dX5_insert_52 (by decide) ?_
    exact ih_30 (i - 1, va_up f1 i (some (ea (ki (i - 1))))) _ _ _ ⟨(by omega), (fun j hj => by rw [q_upn (by omega)]; exact h1 j (by omega)), (fun j hj hj2 => by by_cases e : j = i; (rw [e, q_ups]; exact (hf _ (by omega)).symm); (rw [q_upn e]; exact h2 j (by omega) hj2)), hP, hD, hS, (lv_sub hl [0, 1, 2, 3] rfl)⟩ (by show (i - 1) < i; omega)

set_option maxRecDepth 20000 in
theorem iX5_append_X5 : ∀ w ∈ wsX50, w ∈ wsX5_append := by decide +kernel
set_option maxHeartbeats 4000000 in
set_option maxRecDepth 100000 in
/-- Shelf.append -/
theorem c_X5_append (l : Launch) (D : va_G) (sz : Nat) (sh : Nat) (ar : Nat) (cS : ClassId) (f : Nat → Option Nat) (m : Nat) (ki : Nat → Nat) (ke : Nat) (ea : Nat → Nat) (wa : Nat → Nat) (pf : Nat → Option Nat) (cn : Nat → Nat) (dp : Nat → Nat) (oc : Nat → Nat) (ic : Nat → Int32) (lf : Nat → Int32) (pt : Nat → Int32) (wd : Nat → Nat) (n : Nat) (hnd : ([sh, ar] ++ ([] ++ (rg ea n ++ rg wa n))).Nodup) (hm : m < 40) (hke : ke < n) (hf : ∀ j, j < m → f j = some (ea (ki j))) (hki : ∀ j, j < m → ki j < n) : Met l yX5_append wsX5_append { frames := 1, cells := 0, slots := 0, locals := 23 } (va_Pc [.ref sh, .ref (ea ke)] (qW D sz ([] ++ (EW ea wa pf cn dp oc ic lf pt n ++ WW wa wd n)) [(sh, .inr (4, [.ref ar, .int (nI m)])), (ar, .inl (cS, 40, .inr (.inr (.inr (.inr f)))))] [(cS, .object "FuzzyFens$Entry")])) (va_Qv (fun (uv : (Nat → Option Nat)) => ∀ j, j < m + 1 → uv j = some (ea (insF ki m ke j))) (fun (uv : (Nat → Option Nat)) (tv : State) => va_P D vwCl [(sh, .inr (4, [.ref ar, .int (nI (m + 1))])), (ar, .inl (cS, 40, .inr (.inr (.inr (.inr uv)))))] tv.heap) (va_A [(sh, .inr (4, [.ref ar, .int (nI m)])), (ar, .inl (cS, 40, .inr (.inr (.inr (.inr f)))))] sz)) 0 0 (va_A [(sh, .inr (4, [.ref ar, .int (nI m)])), (ar, .inl (cS, 40, .inr (.inr (.inr (.inr f)))))] sz) := by
  refine Met.ofW (cc := cX5_append) (maxL := 2) (ret := none) (by decide) rfl ?_
  intro pM eM s mi9 argsM belowM methM cM sM B hml hv
  obtain ⟨rfl, hsz, hR0, hP, hK, hNw⟩ := hv
  have hx := B.exec
  have hb := B.bytes
  have hr := B.returns
  have hts := atoms_spec (ws := wsX5_append) B.pre
  have hown : s.vm.findClass RX5 = some mi9.cls := findClass_of_methodNamed B.named
  have hlocks := B.notSynchronized
  subst hsz
  have hna := q_na (RW := [(sh, .inr (4, [.ref ar, .int (nI m)])), (ar, .inl (cS, 40, .inr (.inr (.inr (.inr f)))))]) (RO := [] ++ (EW ea wa pf cn dp oc ic lf pt n ++ WW wa wd n)) hnd rfl (by rw [List.map_append, List.map_append, EW_fst, WW_fst]; rfl) hR0
  have hD := q_D (RW := [(sh, .inr (4, [.ref ar, .int (nI m)])), (ar, .inl (cS, 40, .inr (.inr (.inr (.inr f)))))]) (sz := s.heap.size) hnd rfl
  have hA : ∀ q : Nat, s.heap.size ≤ q → va_A [(sh, .inr (4, [.ref ar, .int (nI m)])), (ar, .inl (cS, 40, .inr (.inr (.inr (.inr f)))))] s.heap.size q := fun q h => Or.inr h
  generalize hAe : va_A [(sh, .inr (4, [.ref ar, .int (nI m)])), (ar, .inl (cS, 40, .inr (.inr (.inr (.inr f)))))] s.heap.size = A at hna hD hA ⊢
  have hS : va_S A s.heap s.heap [] := va_S.rf
  have hR := hR0
  have hP : va_P D vwCl [(sh, .inr (4, [.ref ar, .int (nI m)])), (ar, .inl (cS, 40, .inr (.inr (.inr (.inr f)))))] s.heap := hP
  have hl := lv_entry ([.ref sh, .ref (ea ke)]) (n := 2) (Nat.le_of_ble_eq_true rfl)
  rw [lg_entry_eq]
  generalize (lg_sl ([.ref sh, .ref (ea ke)]) ++ List.replicate (2 - (lg_sl ([.ref sh, .ref (ea ke)])).length) Slot.unset).toArray = ls at hl ⊢
  have hl : lv_has ls 2 [(0, .ref sh), (1, .ref (ea ke))] := hl
  refine lv_aload_n hx hb dX5_append_0 rfl (lv_at hl 0 rfl) ?_
  refine lv_aload_n hx hb dX5_append_1 rfl (lv_at hl 0 rfl) ?_
  refine va_get (D := D) (own := RX5) (ref := "FuzzyFens$Shelf") (ci := 4) (v := .int (nI m)) (C := RX5) (T := TX5) (N := 2) hx hb hts iX5_append_X5 hown hK hP 0 rfl rfl 1 (by decide) (hts (.fieldLink RX5 17 "FuzzyFens$Shelf" "size" "I") (List.mem_of_getElem? (i := 1) rfl)) (fun _ h9 => h9) rfl dX5_append_2 ?_
  refine lv_aload_n hx hb dX5_append_5 rfl (lv_at hl 1 rfl) ?_
  have hF := va_free (wc := [(sh, .inr (4, [.ref ar, .int (nI m)])), (ar, .inl (cS, 40, .inr (.inr (.inr (.inr f)))))]) hD hS hA [0, 1] rfl
  refine va_callv (va_runV (As := [.int (nI m), .ref (ea ke)]) (rest := []) ⟨hx, hb, hml, hown, hts⟩ (c_X5_insert (l := l) (D := D) (sh := sh) (ar := ar) (cS := cS) (f := f) (m := m) (ki := ki) (pl := m) (ke := ke) (ea := ea) (wa := wa) (pf := pf) (cn := cn) (dp := dp) (oc := oc) (ic := ic) (lf := lf) (pt := pt) (wd := wd) (n := n) (sz := s.heap.size) (hnd := (q_ndt hnd [0, 1] rfl rfl)) (hpl := by omega) (hm := hm) (hke := hke) (hf := hf) (hki := hki)) (cwV 2 hts gX5_append_X5_insert rfl rfl rfl (by decide +kernel) ⟨Nat.le_of_ble_eq_true rfl, Nat.le_of_ble_eq_true rfl⟩) ⟨qW_blind, (va_recv hK hP (ci := 4) (q0 := 0) rfl rfl), (qW_of (va_P.app (q_Pof (fun _ h => absurd h List.not_mem_nil)) (q_right hR)) (hP.sub (ws' := [(sh, .inr (4, [.ref ar, .int (nI m)])), (ar, .inl (cS, 40, .inr (.inr (.inr (.inr f)))))]) [0, 1] rfl) (hK.sub (tys' := [(cS, .object "FuzzyFens$Entry")]) [0] rfl) hNw)⟩ rfl rfl hl.1 rfl (lv_room (Nat.le_of_ble_eq_true rfl)) dX5_append_6 ⟨Nat.le_of_ble_eq_true rfl, Nat.le_of_ble_eq_true rfl⟩) hS (fun q _ h => hF q h) hF (fun u_5 t_4 H_2 locs_3 ht hvm hr_1 hB hz1 hk1 hS => ?_)
  obtain ⟨f2_6, rfl⟩ : ∃ z, z = u_5 := ⟨_, rfl⟩
  replace hB : va_P D vwCl [(sh, .inr (4, [.ref ar, .int (nI (m + 1))])), (ar, .inl (cS, 40, .inr (.inr (.inr (.inr f2_6)))))] H_2 := by rw [← ht]; exact hB
  obtain ⟨hP, hD⟩ := q_join (wc := [(sh, .inr (4, [.ref ar, .int (nI m)])), (ar, .inl (cS, 40, .inr (.inr (.inr (.inr f)))))]) (w1 := [(sh, .inr (4, [.ref ar, .int (nI (m + 1))])), (ar, .inl (cS, 40, .inr (.inr (.inr (.inr f2_6)))))]) (ws' := [(sh, .inr (4, [.ref ar, .int (nI (m + 1))])), (ar, .inl (cS, 40, .inr (.inr (.inr (.inr f2_6)))))]) [0, 1] hP hD rfl rfl hk1 hB rfl
  have hR := q_ro hR0 hna hS
  have f_r_1 := hr_1
  exact W.vret hx hb hr (fun t9 ht hW => ⟨⟨f2_6, rfl, f_r_1, by show va_P D vwCl _ t9.heap; rw [ht]; exact hP⟩, hS.F ht⟩) hS.2.2 dX5_append_9

set_option maxRecDepth 20000 in
theorem iX5_insertAlphabetically_X5 : ∀ w ∈ wsX50, w ∈ wsX5_insertAlphabetically := by decide +kernel
set_option maxHeartbeats 4000000 in
set_option maxRecDepth 100000 in
/-- X5_insertAlphabetically -/
theorem c_X5_insertAlphabetically (l : Launch) (D : va_G) (sz : Nat) (sh : Nat) (ar : Nat) (cS : ClassId) (f : Nat → Option Nat) (m : Nat) (ki : Nat → Nat) (ke : Nat) (ea : Nat → Nat) (wa : Nat → Nat) (pf : Nat → Option Nat) (cn : Nat → Nat) (dp : Nat → Nat) (oc : Nat → Nat) (ic : Nat → Int32) (lf : Nat → Int32) (pt : Nat → Int32) (wd : Nat → Nat) (n : Nat) (hnd : ([sh, ar] ++ ([] ++ (rg ea n ++ rg wa n))).Nodup) (hm : m < 40) (hke : ke < n) (hg : ∀ k, k < n → gw (wd k)) (hf : ∀ j, j < m → f j = some (ea (ki j))) (hki : ∀ j, j < m → ki j < n) : Met l yX5_insertAlphabetically wsX5_insertAlphabetically { frames := 1, cells := 0, slots := 0, locals := 23 } (va_Pc [.ref sh, .ref (ea ke)] (qW D sz ([] ++ (EW ea wa pf cn dp oc ic lf pt n ++ WW wa wd n)) [(sh, .inr (4, [.ref ar, .int (nI m)])), (ar, .inl (cS, 40, .inr (.inr (.inr (.inr f)))))] [(cS, .object "FuzzyFens$Entry")])) (va_Qv (fun (uv : (Nat → Option Nat)) => ∀ j, j < m + 1 → uv j = some (ea (insF ki (cnt (fun j => decide (al (wd (ki j)) < al (wd ke))) m) ke j))) (fun (uv : (Nat → Option Nat)) (tv : State) => va_P D vwCl [(sh, .inr (4, [.ref ar, .int (nI (m + 1))])), (ar, .inl (cS, 40, .inr (.inr (.inr (.inr uv)))))] tv.heap) (va_A [(sh, .inr (4, [.ref ar, .int (nI m)])), (ar, .inl (cS, 40, .inr (.inr (.inr (.inr f)))))] sz)) 0 0 (va_A [(sh, .inr (4, [.ref ar, .int (nI m)])), (ar, .inl (cS, 40, .inr (.inr (.inr (.inr f)))))] sz) := by
  refine Met.ofW (cc := cX5_insertAlphabetically) (maxL := 5) (ret := none) (by decide) rfl ?_
  intro pM eM s mi9 argsM belowM methM cM sM B hml hv
  obtain ⟨rfl, hsz, hR0, hP, hK, hNw⟩ := hv
  have hx := B.exec
  have hb := B.bytes
  have hr := B.returns
  have hts := atoms_spec (ws := wsX5_insertAlphabetically) B.pre
  have hown : s.vm.findClass RX5 = some mi9.cls := findClass_of_methodNamed B.named
  have hlocks := B.notSynchronized
  subst hsz
  have hna := q_na (RW := [(sh, .inr (4, [.ref ar, .int (nI m)])), (ar, .inl (cS, 40, .inr (.inr (.inr (.inr f)))))]) (RO := [] ++ (EW ea wa pf cn dp oc ic lf pt n ++ WW wa wd n)) hnd rfl (by rw [List.map_append, List.map_append, EW_fst, WW_fst]; rfl) hR0
  have hD := q_D (RW := [(sh, .inr (4, [.ref ar, .int (nI m)])), (ar, .inl (cS, 40, .inr (.inr (.inr (.inr f)))))]) (sz := s.heap.size) hnd rfl
  have hA : ∀ q : Nat, s.heap.size ≤ q → va_A [(sh, .inr (4, [.ref ar, .int (nI m)])), (ar, .inl (cS, 40, .inr (.inr (.inr (.inr f)))))] s.heap.size q := fun q h => Or.inr h
  generalize hAe : va_A [(sh, .inr (4, [.ref ar, .int (nI m)])), (ar, .inl (cS, 40, .inr (.inr (.inr (.inr f)))))] s.heap.size = A at hna hD hA ⊢
  have hS : va_S A s.heap s.heap [] := va_S.rf
  have hR := hR0
  have hP : va_P D vwCl [(sh, .inr (4, [.ref ar, .int (nI m)])), (ar, .inl (cS, 40, .inr (.inr (.inr (.inr f)))))] s.heap := hP
  have hl := lv_entry ([.ref sh, .ref (ea ke)]) (n := 5) (Nat.le_of_ble_eq_true rfl)
  rw [lg_entry_eq]
  generalize (lg_sl ([.ref sh, .ref (ea ke)]) ++ List.replicate (5 - (lg_sl ([.ref sh, .ref (ea ke)])).length) Slot.unset).toArray = ls at hl ⊢
  have hl : lv_has ls 5 [(0, .ref sh), (1, .ref (ea ke))] := hl
  refine lv_iconst (v := nI 0) hx hb dX5_insertAlphabetically_0 (by decide) ?_
  refine lv_istore_n (lv' := [(2, .int (nI 0)), (0, .ref sh), (1, .ref (ea ke))]) hx hb dX5_insertAlphabetically_1 rfl hl (by decide) rfl (fun ls hl => ?_)
  refine lv_iconst (v := nI 0) hx hb dX5_insertAlphabetically_2 (by decide) ?_
  refine lv_istore_n (lv' := [(3, .int (nI 0)), (2, .int (nI 0)), (0, .ref sh), (1, .ref (ea ke))]) hx hb dX5_insertAlphabetically_3 rfl hl (by decide) rfl (fun ls hl => ?_)
  refine q_loop (fun (x : (Nat) × (Nat)) (Hc : Heap) (Lc : List Loc) (ls : Array Slot) => match x with | (i, q) => (i ≤ m) ∧ (q = cnt (fun j => decide (al (wd (ki j)) < al (wd ke))) i) ∧ s.heap = Hc ∧ [] = Lc ∧ lv_has ls 5 [(3, .int (nI i)), (2, .int (nI q)), (0, .ref sh), (1, .ref (ea ke))]) (fun (x : (Nat) × (Nat)) => match x with | (i, q) => m - i) (0, 0) ⟨(by omega), rfl, rfl, rfl, (lv_sub hl [0, 1, 2, 3] rfl)⟩ ?_
  clear hl
  rintro ⟨i, q⟩ Hc Lc ls hI ih_4
  obtain ⟨hi, hq, rfl, rfl, hl⟩ := hI
  refine lv_iload_n hx hb dX5_insertAlphabetically_4 rfl (lv_at hl 0 rfl) ?_
  refine lv_aload_n hx hb dX5_insertAlphabetically_5 rfl (lv_at hl 2 rfl) ?_
  refine va_get (D := D) (own := RX5) (ref := "FuzzyFens$Shelf") (ci := 4) (v := .int (nI m)) (C := RX5) (T := TX5) (N := 2) hx hb hts iX5_insertAlphabetically_X5 hown hK hP 0 rfl rfl 1 (by decide) (hts (.fieldLink RX5 17 "FuzzyFens$Shelf" "size" "I") (List.mem_of_getElem? (i := 1) rfl)) (fun _ h9 => h9) rfl dX5_insertAlphabetically_6 ?_
  refine q_icmp_ge (a := i) (b := m) (tgt := 42) hx hb dX5_insertAlphabetically_9 (by decide) (by omega) (by omega) (fun c_9 => ?_) (fun c_9 => ?_)
  · skip
    refine lv_aload_n hx hb dX5_insertAlphabetically_42 rfl (lv_at hl 2 rfl) ?_
    refine lv_iload_n hx hb dX5_insertAlphabetically_43 rfl (lv_at hl 1 rfl) ?_
    refine lv_aload_n hx hb dX5_insertAlphabetically_44 rfl (lv_at hl 3 rfl) ?_
    have hcl := cnt_le (fun j => decide (al (wd (ki j)) < al (wd ke))) i
    have hF := va_free (wc := [(sh, .inr (4, [.ref ar, .int (nI m)])), (ar, .inl (cS, 40, .inr (.inr (.inr (.inr f)))))]) hD hS hA [0, 1] rfl
    refine va_callv (va_runV (As := [.int (nI q), .ref (ea ke)]) (rest := []) ⟨hx, hb, hml, hown, hts⟩ (c_X5_insert (l := l) (D := D) (sh := sh) (ar := ar) (cS := cS) (f := f) (m := m) (ki := ki) (pl := q) (ke := ke) (ea := ea) (wa := wa) (pf := pf) (cn := cn) (dp := dp) (oc := oc) (ic := ic) (lf := lf) (pt := pt) (wd := wd) (n := n) (sz := s.heap.size) (hnd := (q_ndt hnd [0, 1] rfl rfl)) (hpl := by omega) (hm := hm) (hke := hke) (hf := hf) (hki := hki)) (cwV 2 hts gX5_insertAlphabetically_X5_insert rfl rfl rfl (by decide +kernel) ⟨Nat.le_of_ble_eq_true rfl, Nat.le_of_ble_eq_true rfl⟩) ⟨qW_blind, (va_recv hK hP (ci := 4) (q0 := 0) rfl rfl), (qW_of (va_P.app (q_Pof (fun _ h => absurd h List.not_mem_nil)) (q_right hR)) (hP.sub (ws' := [(sh, .inr (4, [.ref ar, .int (nI m)])), (ar, .inl (cS, 40, .inr (.inr (.inr (.inr f)))))]) [0, 1] rfl) (hK.sub (tys' := [(cS, .object "FuzzyFens$Entry")]) [0] rfl) hNw)⟩ rfl rfl hl.1 rfl (lv_room (Nat.le_of_ble_eq_true rfl)) dX5_insertAlphabetically_45 ⟨Nat.le_of_ble_eq_true rfl, Nat.le_of_ble_eq_true rfl⟩) hS (fun q _ h => hF q h) hF (fun u_5 t_4 H_2 locs_3 ht hvm hr_1 hB hz1 hk1 hS => ?_)
    obtain ⟨f2_6, rfl⟩ : ∃ z, z = u_5 := ⟨_, rfl⟩
    replace hB : va_P D vwCl [(sh, .inr (4, [.ref ar, .int (nI (m + 1))])), (ar, .inl (cS, 40, .inr (.inr (.inr (.inr f2_6)))))] H_2 := by rw [← ht]; exact hB
    obtain ⟨hP, hD⟩ := q_join (wc := [(sh, .inr (4, [.ref ar, .int (nI m)])), (ar, .inl (cS, 40, .inr (.inr (.inr (.inr f)))))]) (w1 := [(sh, .inr (4, [.ref ar, .int (nI (m + 1))])), (ar, .inl (cS, 40, .inr (.inr (.inr (.inr f2_6)))))]) (ws' := [(sh, .inr (4, [.ref ar, .int (nI (m + 1))])), (ar, .inl (cS, 40, .inr (.inr (.inr (.inr f2_6)))))]) [0, 1] hP hD rfl rfl hk1 hB rfl
    have hR := q_ro hR0 hna hS
    have hin := hr_1
    exact W.vret hx hb hr (fun t9 ht hW => ⟨⟨f2_6, rfl, (by have e8 : i = m := (by omega); rw [hq, e8] at hin; exact hin), by show va_P D vwCl _ t9.heap; rw [ht]; exact hP⟩, hS.F ht⟩) hS.2.2 dX5_insertAlphabetically_48
  · skip
    refine lv_aload_n hx hb dX5_insertAlphabetically_12 rfl (lv_at hl 2 rfl) ?_
    refine lv_iload_n hx hb dX5_insertAlphabetically_13 rfl (lv_at hl 0 rfl) ?_
    refine va_csq (W.runV (As := [.int (nI i)]) (rest := []) ⟨hx, hb, hml, hown, hts⟩ (c_X5_at (l := l) (D := D) (sh := sh) (ar := ar) (cS := cS) (f := f) (m := m) (i := i) (hi := by omega) (hm := by omega)) (cwV 1 hts gX5_insertAlphabetically_X5_at rfl rfl rfl (by decide +kernel) ⟨Nat.le_of_ble_eq_true rfl, Nat.le_of_ble_eq_true rfl⟩) ⟨qP_blind, (va_recv hK hP (ci := 4) (q0 := 0) rfl rfl), (qP_of (hP.sub (ws' := [(sh, .inr (4, [.ref ar, .int (nI m)])), (ar, .inl (cS, 40, .inr (.inr (.inr (.inr f)))))]) [0, 1] rfl) (hK.sub (tys' := [(cS, .object "FuzzyFens$Entry")]) [0] rfl) hNw)⟩ rfl rfl hl.1 rfl (lv_room (Nat.le_of_ble_eq_true rfl)) dX5_insertAlphabetically_14 ⟨Nat.le_of_ble_eq_true rfl, Nat.le_of_ble_eq_true rfl⟩) (fun r_7 hr_7 => ?_)
    subst hr_7
    have e9 : f i = some (ea (ki i)) := hf _ (by omega)
    have hk9 := hki i (by omega)
    refine q_cvv (show va_rf (f i) = .ref (ea (ki i)) from (by rw [e9]; rfl)) ?_
    refine lv_astore (lv' := [(4, .ref (ea (ki i))), (3, .int (nI i)), (2, .int (nI q)), (0, .ref sh), (1, .ref (ea ke))]) hx hb dX5_insertAlphabetically_17 hl (by decide) rfl (fun ls hl => ?_)
    refine lv_aload hx hb dX5_insertAlphabetically_19 (lv_at hl 0 rfl) ?_
    refine lv_ifnull hx hb dX5_insertAlphabetically_21 ?_
    refine lv_aload hx hb dX5_insertAlphabetically_24 (lv_at hl 0 rfl) ?_
    refine lv_aload_n hx hb dX5_insertAlphabetically_26 rfl (lv_at hl 4 rfl) ?_
    refine vp_callSi (W.runV (As := [.ref (ea ke)]) (rest := []) ⟨hx, hb, hml, hown, hts⟩ (c_X0_standsAhead (l := l) (D := D) (e1 := ea (ki i)) (w1 := wa (ki i)) (p1 := pf (ki i)) (c1 := cn (ki i)) (d1 := dp (ki i)) (o1 := oc (ki i)) (i1 := ic (ki i)) (l1 := lf (ki i)) (t1 := pt (ki i)) (e2 := ea ke) (w2 := wa ke) (p2 := pf ke) (c2 := cn ke) (d2 := dp ke) (o2 := oc ke) (i2 := ic ke) (l2 := lf ke) (t2 := pt ke) (a := wd (ki i)) (b := wd ke) (hga := hg _ hk9) (hgb := hg _ hke)) (cwV 1 hts gX5_insertAlphabetically_X0_standsAhead rfl rfl rfl (by decide +kernel) ⟨Nat.le_of_ble_eq_true rfl, Nat.le_of_ble_eq_true rfl⟩) ⟨qP_blind, (va_recv hK (E_at hR (ki i) (by omega)) (ci := 0) (q0 := 0) rfl rfl), (qP_of (show va_P D vwCl [(ea (ki i), .inr (0, [.ref (wa (ki i)), va_rf (pf (ki i)), .int (nI (cn (ki i))), .int (nI (dp (ki i))), .int (nI (oc (ki i))), .int (ic (ki i)), .int (lf (ki i)), .int (pt (ki i))])), (wa (ki i), .inr (7, [.long (lN (wd (ki i))), .int (nI (wl (wd (ki i)))), .long (lN (al (wd (ki i))))])), (ea ke, .inr (0, [.ref (wa ke), va_rf (pf ke), .int (nI (cn ke)), .int (nI (dp ke)), .int (nI (oc ke)), .int (ic ke), .int (lf ke), .int (pt ke)])), (wa ke, .inr (7, [.long (lN (wd ke)), .int (nI (wl (wd ke))), .long (lN (al (wd ke)))]))] _ from (va_P.app ((E_at hR (ki i) (by omega))) (va_P.app ((W_at hR (ki i) (by omega))) (va_P.app ((E_at hR ke (by omega))) ((W_at hR ke (by omega))))))) (hK.sub (tys' := []) [] rfl) hNw)⟩ rfl rfl hl.1 rfl (lv_room (Nat.le_of_ble_eq_true rfl)) dX5_insertAlphabetically_27 ⟨Nat.le_of_ble_eq_true rfl, Nat.le_of_ble_eq_true rfl⟩) (fun r_8 hr_8 => ?_)
    subst hr_8
    refine q_ifb_eq (tgt := 36) hx hb dX5_insertAlphabetically_30 (by decide) (fun c_30 => ?_) (fun c_30 => ?_)
    · skip
      refine lv_iinc (v := nI (i + 1)) (lv' := [(3, .int (nI (i + 1))), (4, .ref (ea (ki i))), (2, .int (nI q)), (0, .ref sh), (1, .ref (ea ke))]) hx hb dX5_insertAlphabetically_36 hl (k := 1) rfl (q_inc (k := 1) (by omega)) (by decide) rfl (fun ls hl => ?_)
      refine lv_goto (tgt := 4) hx hb dX5_insertAlphabetically_39 (by decide) ?_
      exact ih_4 (i + 1, q) _ _ _ ⟨(by omega), (by rw [cnt_f (by simpa using c_30)]; exact hq), rfl, rfl, (lv_sub hl [0, 2, 3, 4] rfl)⟩ (by show m - (i + 1) < m - i; omega)
    · skip
      refine lv_iinc (v := nI (q + 1)) (lv' := [(2, .int (nI (q + 1))), (4, .ref (ea (ki i))), (3, .int (nI i)), (0, .ref sh), (1, .ref (ea ke))]) hx hb dX5_insertAlphabetically_33 hl (k := 2) rfl (q_inc (k := 1) (by omega)) (by decide) rfl (fun ls hl => ?_)
      refine lv_iinc (v := nI (i + 1)) (lv' := [(3, .int (nI (i + 1))), (2, .int (nI (q + 1))), (4, .ref (ea (ki i))), (0, .ref sh), (1, .ref (ea ke))]) hx hb dX5_insertAlphabetically_36 hl (k := 2) rfl (q_inc (k := 1) (by omega)) (by decide) rfl (fun ls hl => ?_)
      refine lv_goto (tgt := 4) hx hb dX5_insertAlphabetically_39 (by decide) ?_
      exact ih_4 (i + 1, q + 1) _ _ _ ⟨(by omega), (by rw [cnt_t (by simpa using c_30), hq]), rfl, rfl, (lv_sub hl [0, 1, 3, 4] rfl)⟩ (by show m - (i + 1) < m - i; omega)

set_option maxRecDepth 20000 in
theorem iX5_insertByRank_X5 : ∀ w ∈ wsX50, w ∈ wsX5_insertByRank := by decide +kernel
set_option maxHeartbeats 4000000 in
set_option maxRecDepth 100000 in
/-- X5_insertByRank -/
theorem c_X5_insertByRank (l : Launch) (D : va_G) (sz : Nat) (sh : Nat) (ar : Nat) (cS : ClassId) (f : Nat → Option Nat) (m : Nat) (ki : Nat → Nat) (ke : Nat) (pz : Nat → Nat) (ea : Nat → Nat) (wa : Nat → Nat) (pf : Nat → Option Nat) (cn : Nat → Nat) (dp : Nat → Nat) (oc : Nat → Nat) (ic : Nat → Int32) (lf : Nat → Int32) (pt : Nat → Int32) (wd : Nat → Nat) (n : Nat) (hnd : ([sh, ar] ++ ([] ++ (rg ea n ++ rg wa n))).Nodup) (hm : m < 40) (hke : ke < n) (hg : ∀ k, k < n → gw (wd k)) (hf : ∀ j, j < m → f j = some (ea (ki j))) (hki : ∀ j, j < m → ki j < n) (hpz : ∀ j, j < m → pt (ki j) = nI (pz (ki j))) (hpe : pt ke = nI (pz ke)) (hpb : ∀ j, j < m → pz (ki j) < 2 ^ 31) (hpb2 : pz ke < 2 ^ 31) (hob : ∀ k, k < n → oc k < 2 ^ 31) : Met l yX5_insertByRank wsX5_insertByRank { frames := 2, cells := 0, slots := 0, locals := 42 } (va_Pc [.ref sh, .ref (ea ke)] (qW D sz ([] ++ (EW ea wa pf cn dp oc ic lf pt n ++ WW wa wd n)) [(sh, .inr (4, [.ref ar, .int (nI m)])), (ar, .inl (cS, 40, .inr (.inr (.inr (.inr f)))))] [(cS, .object "FuzzyFens$Entry")])) (va_Qv (fun (uv : (Nat → Option Nat)) => ∀ j, j < m + 1 → uv j = some (ea (insF ki (cnt (fun j => decide (rkb pz oc wd (ki j) ke)) m) ke j))) (fun (uv : (Nat → Option Nat)) (tv : State) => va_P D vwCl [(sh, .inr (4, [.ref ar, .int (nI (m + 1))])), (ar, .inl (cS, 40, .inr (.inr (.inr (.inr uv)))))] tv.heap) (va_A [(sh, .inr (4, [.ref ar, .int (nI m)])), (ar, .inl (cS, 40, .inr (.inr (.inr (.inr f)))))] sz)) 0 0 (va_A [(sh, .inr (4, [.ref ar, .int (nI m)])), (ar, .inl (cS, 40, .inr (.inr (.inr (.inr f)))))] sz) := by
  refine Met.ofW (cc := cX5_insertByRank) (maxL := 5) (ret := none) (by decide) rfl ?_
  intro pM eM s mi9 argsM belowM methM cM sM B hml hv
  obtain ⟨rfl, hsz, hR0, hP, hK, hNw⟩ := hv
  have hx := B.exec
  have hb := B.bytes
  have hr := B.returns
  have hts := atoms_spec (ws := wsX5_insertByRank) B.pre
  have hown : s.vm.findClass RX5 = some mi9.cls := findClass_of_methodNamed B.named
  have hlocks := B.notSynchronized
  subst hsz
  have hna := q_na (RW := [(sh, .inr (4, [.ref ar, .int (nI m)])), (ar, .inl (cS, 40, .inr (.inr (.inr (.inr f)))))]) (RO := [] ++ (EW ea wa pf cn dp oc ic lf pt n ++ WW wa wd n)) hnd rfl (by rw [List.map_append, List.map_append, EW_fst, WW_fst]; rfl) hR0
  have hD := q_D (RW := [(sh, .inr (4, [.ref ar, .int (nI m)])), (ar, .inl (cS, 40, .inr (.inr (.inr (.inr f)))))]) (sz := s.heap.size) hnd rfl
  have hA : ∀ q : Nat, s.heap.size ≤ q → va_A [(sh, .inr (4, [.ref ar, .int (nI m)])), (ar, .inl (cS, 40, .inr (.inr (.inr (.inr f)))))] s.heap.size q := fun q h => Or.inr h
  generalize hAe : va_A [(sh, .inr (4, [.ref ar, .int (nI m)])), (ar, .inl (cS, 40, .inr (.inr (.inr (.inr f)))))] s.heap.size = A at hna hD hA ⊢
  have hS : va_S A s.heap s.heap [] := va_S.rf
  have hR := hR0
  have hP : va_P D vwCl [(sh, .inr (4, [.ref ar, .int (nI m)])), (ar, .inl (cS, 40, .inr (.inr (.inr (.inr f)))))] s.heap := hP
  have hl := lv_entry ([.ref sh, .ref (ea ke)]) (n := 5) (Nat.le_of_ble_eq_true rfl)
  rw [lg_entry_eq]
  generalize (lg_sl ([.ref sh, .ref (ea ke)]) ++ List.replicate (5 - (lg_sl ([.ref sh, .ref (ea ke)])).length) Slot.unset).toArray = ls at hl ⊢
  have hl : lv_has ls 5 [(0, .ref sh), (1, .ref (ea ke))] := hl
  refine lv_iconst (v := nI 0) hx hb dX5_insertByRank_0 (by decide) ?_
  refine lv_istore_n (lv' := [(2, .int (nI 0)), (0, .ref sh), (1, .ref (ea ke))]) hx hb dX5_insertByRank_1 rfl hl (by decide) rfl (fun ls hl => ?_)
  refine lv_iconst (v := nI 0) hx hb dX5_insertByRank_2 (by decide) ?_
  refine lv_istore_n (lv' := [(3, .int (nI 0)), (2, .int (nI 0)), (0, .ref sh), (1, .ref (ea ke))]) hx hb dX5_insertByRank_3 rfl hl (by decide) rfl (fun ls hl => ?_)
  refine q_loop (fun (x : (Nat) × (Nat)) (Hc : Heap) (Lc : List Loc) (ls : Array Slot) => match x with | (i, q) => (i ≤ m) ∧ (q = cnt (fun j => decide (rkb pz oc wd (ki j) ke)) i) ∧ s.heap = Hc ∧ [] = Lc ∧ lv_has ls 5 [(3, .int (nI i)), (2, .int (nI q)), (0, .ref sh), (1, .ref (ea ke))]) (fun (x : (Nat) × (Nat)) => match x with | (i, q) => m - i) (0, 0) ⟨(by omega), rfl, rfl, rfl, (lv_sub hl [0, 1, 2, 3] rfl)⟩ ?_
  clear hl
  rintro ⟨i, q⟩ Hc Lc ls hI ih_4
  obtain ⟨hi, hq, rfl, rfl, hl⟩ := hI
  refine lv_iload_n hx hb dX5_insertByRank_4 rfl (lv_at hl 0 rfl) ?_
  refine lv_aload_n hx hb dX5_insertByRank_5 rfl (lv_at hl 2 rfl) ?_
  refine va_get (D := D) (own := RX5) (ref := "FuzzyFens$Shelf") (ci := 4) (v := .int (nI m)) (C := RX5) (T := TX5) (N := 2) hx hb hts iX5_insertByRank_X5 hown hK hP 0 rfl rfl 1 (by decide) (hts (.fieldLink RX5 17 "FuzzyFens$Shelf" "size" "I") (List.mem_of_getElem? (i := 1) rfl)) (fun _ h9 => h9) rfl dX5_insertByRank_6 ?_
  refine q_icmp_ge (a := i) (b := m) (tgt := 42) hx hb dX5_insertByRank_9 (by decide) (by omega) (by omega) (fun c_9 => ?_) (fun c_9 => ?_)
  · skip
    refine lv_aload_n hx hb dX5_insertByRank_42 rfl (lv_at hl 2 rfl) ?_
    refine lv_iload_n hx hb dX5_insertByRank_43 rfl (lv_at hl 1 rfl) ?_
    refine lv_aload_n hx hb dX5_insertByRank_44 rfl (lv_at hl 3 rfl) ?_
    have hcl := cnt_le (fun j => decide (rkb pz oc wd (ki j) ke)) i
    have hF := va_free (wc := [(sh, .inr (4, [.ref ar, .int (nI m)])), (ar, .inl (cS, 40, .inr (.inr (.inr (.inr f)))))]) hD hS hA [0, 1] rfl
    refine va_callv (va_runV (As := [.int (nI q), .ref (ea ke)]) (rest := []) ⟨hx, hb, hml, hown, hts⟩ (c_X5_insert (l := l) (D := D) (sh := sh) (ar := ar) (cS := cS) (f := f) (m := m) (ki := ki) (pl := q) (ke := ke) (ea := ea) (wa := wa) (pf := pf) (cn := cn) (dp := dp) (oc := oc) (ic := ic) (lf := lf) (pt := pt) (wd := wd) (n := n) (sz := s.heap.size) (hnd := (q_ndt hnd [0, 1] rfl rfl)) (hpl := by omega) (hm := hm) (hke := hke) (hf := hf) (hki := hki)) (cwV 2 hts gX5_insertByRank_X5_insert rfl rfl rfl (by decide +kernel) ⟨Nat.le_of_ble_eq_true rfl, Nat.le_of_ble_eq_true rfl⟩) ⟨qW_blind, (va_recv hK hP (ci := 4) (q0 := 0) rfl rfl), (qW_of (va_P.app (q_Pof (fun _ h => absurd h List.not_mem_nil)) (q_right hR)) (hP.sub (ws' := [(sh, .inr (4, [.ref ar, .int (nI m)])), (ar, .inl (cS, 40, .inr (.inr (.inr (.inr f)))))]) [0, 1] rfl) (hK.sub (tys' := [(cS, .object "FuzzyFens$Entry")]) [0] rfl) hNw)⟩ rfl rfl hl.1 rfl (lv_room (Nat.le_of_ble_eq_true rfl)) dX5_insertByRank_45 ⟨Nat.le_of_ble_eq_true rfl, Nat.le_of_ble_eq_true rfl⟩) hS (fun q _ h => hF q h) hF (fun u_5 t_4 H_2 locs_3 ht hvm hr_1 hB hz1 hk1 hS => ?_)
    obtain ⟨f2_6, rfl⟩ : ∃ z, z = u_5 := ⟨_, rfl⟩
    replace hB : va_P D vwCl [(sh, .inr (4, [.ref ar, .int (nI (m + 1))])), (ar, .inl (cS, 40, .inr (.inr (.inr (.inr f2_6)))))] H_2 := by rw [← ht]; exact hB
    obtain ⟨hP, hD⟩ := q_join (wc := [(sh, .inr (4, [.ref ar, .int (nI m)])), (ar, .inl (cS, 40, .inr (.inr (.inr (.inr f)))))]) (w1 := [(sh, .inr (4, [.ref ar, .int (nI (m + 1))])), (ar, .inl (cS, 40, .inr (.inr (.inr (.inr f2_6)))))]) (ws' := [(sh, .inr (4, [.ref ar, .int (nI (m + 1))])), (ar, .inl (cS, 40, .inr (.inr (.inr (.inr f2_6)))))]) [0, 1] hP hD rfl rfl hk1 hB rfl
    have hR := q_ro hR0 hna hS
    have hin := hr_1
    exact W.vret hx hb hr (fun t9 ht hW => ⟨⟨f2_6, rfl, (by have e8 : i = m := (by omega); rw [hq, e8] at hin; exact hin), by show va_P D vwCl _ t9.heap; rw [ht]; exact hP⟩, hS.F ht⟩) hS.2.2 dX5_insertByRank_48
  · skip
    refine lv_aload_n hx hb dX5_insertByRank_12 rfl (lv_at hl 2 rfl) ?_
    refine lv_iload_n hx hb dX5_insertByRank_13 rfl (lv_at hl 0 rfl) ?_
    refine va_csq (W.runV (As := [.int (nI i)]) (rest := []) ⟨hx, hb, hml, hown, hts⟩ (c_X5_at (l := l) (D := D) (sh := sh) (ar := ar) (cS := cS) (f := f) (m := m) (i := i) (hi := by omega) (hm := by omega)) (cwV 1 hts gX5_insertByRank_X5_at rfl rfl rfl (by decide +kernel) ⟨Nat.le_of_ble_eq_true rfl, Nat.le_of_ble_eq_true rfl⟩) ⟨qP_blind, (va_recv hK hP (ci := 4) (q0 := 0) rfl rfl), (qP_of (hP.sub (ws' := [(sh, .inr (4, [.ref ar, .int (nI m)])), (ar, .inl (cS, 40, .inr (.inr (.inr (.inr f)))))]) [0, 1] rfl) (hK.sub (tys' := [(cS, .object "FuzzyFens$Entry")]) [0] rfl) hNw)⟩ rfl rfl hl.1 rfl (lv_room (Nat.le_of_ble_eq_true rfl)) dX5_insertByRank_14 ⟨Nat.le_of_ble_eq_true rfl, Nat.le_of_ble_eq_true rfl⟩) (fun r_7 hr_7 => ?_)
    subst hr_7
    have e9 : f i = some (ea (ki i)) := hf _ (by omega)
    have hk9 := hki i (by omega)
    refine q_cvv (show va_rf (f i) = .ref (ea (ki i)) from (by rw [e9]; rfl)) ?_
    refine lv_astore (lv' := [(4, .ref (ea (ki i))), (3, .int (nI i)), (2, .int (nI q)), (0, .ref sh), (1, .ref (ea ke))]) hx hb dX5_insertByRank_17 hl (by decide) rfl (fun ls hl => ?_)
    refine lv_aload hx hb dX5_insertByRank_19 (lv_at hl 0 rfl) ?_
    refine lv_ifnull hx hb dX5_insertByRank_21 ?_
    refine lv_aload hx hb dX5_insertByRank_24 (lv_at hl 0 rfl) ?_
    refine lv_aload_n hx hb dX5_insertByRank_26 rfl (lv_at hl 4 rfl) ?_
    refine vp_callSi (W.runV (As := [.ref (ea ke)]) (rest := []) ⟨hx, hb, hml, hown, hts⟩ (c_X0_ranksAhead (l := l) (D := D) (e1 := ea (ki i)) (w1 := wa (ki i)) (p1 := pf (ki i)) (c1 := cn (ki i)) (d1 := dp (ki i)) (o1 := oc (ki i)) (i1 := ic (ki i)) (l1 := lf (ki i)) (q1 := pz (ki i)) (e2 := ea ke) (w2 := wa ke) (p2 := pf ke) (c2 := cn ke) (d2 := dp ke) (o2 := oc ke) (i2 := ic ke) (l2 := lf ke) (q2 := pz ke) (a := wd (ki i)) (b := wd ke) (hga := hg _ hk9) (hgb := hg _ hke) (hq1 := hpb i (by omega)) (hq2 := hpb2) (ho1 := hob _ hk9) (ho2 := hob _ hke)) (cwV 1 hts gX5_insertByRank_X0_ranksAhead rfl rfl rfl (by decide +kernel) ⟨Nat.le_of_ble_eq_true rfl, Nat.le_of_ble_eq_true rfl⟩) ⟨qP_blind, (va_recv hK (by have h9 := E_at hR (ki i) hk9; rw [hpz i (by omega)] at h9; exact h9) (ci := 0) (q0 := 0) rfl rfl), (qP_of (show va_P D vwCl [(ea (ki i), .inr (0, [.ref (wa (ki i)), va_rf (pf (ki i)), .int (nI (cn (ki i))), .int (nI (dp (ki i))), .int (nI (oc (ki i))), .int (ic (ki i)), .int (lf (ki i)), .int (nI (pz (ki i)))])), (wa (ki i), .inr (7, [.long (lN (wd (ki i))), .int (nI (wl (wd (ki i)))), .long (lN (al (wd (ki i))))])), (ea ke, .inr (0, [.ref (wa ke), va_rf (pf ke), .int (nI (cn ke)), .int (nI (dp ke)), .int (nI (oc ke)), .int (ic ke), .int (lf ke), .int (nI (pz ke))])), (wa ke, .inr (7, [.long (lN (wd ke)), .int (nI (wl (wd ke))), .long (lN (al (wd ke)))]))] _ from (va_P.app ((by have h9 := E_at hR (ki i) hk9; rw [hpz i (by omega)] at h9; exact h9)) (va_P.app ((W_at hR (ki i) (by omega))) (va_P.app ((by have h9 := E_at hR ke hke; rw [hpe] at h9; exact h9)) ((W_at hR ke (by omega))))))) (hK.sub (tys' := []) [] rfl) hNw)⟩ rfl rfl hl.1 rfl (lv_room (Nat.le_of_ble_eq_true rfl)) dX5_insertByRank_27 ⟨Nat.le_of_ble_eq_true rfl, Nat.le_of_ble_eq_true rfl⟩) (fun r_8 hr_8 => ?_)
    subst hr_8
    refine q_ifb_eq (tgt := 36) hx hb dX5_insertByRank_30 (by decide) (fun c_30 => ?_) (fun c_30 => ?_)
    · skip
      refine lv_iinc (v := nI (i + 1)) (lv' := [(3, .int (nI (i + 1))), (4, .ref (ea (ki i))), (2, .int (nI q)), (0, .ref sh), (1, .ref (ea ke))]) hx hb dX5_insertByRank_36 hl (k := 1) rfl (q_inc (k := 1) (by omega)) (by decide) rfl (fun ls hl => ?_)
      refine lv_goto (tgt := 4) hx hb dX5_insertByRank_39 (by decide) ?_
      exact ih_4 (i + 1, q) _ _ _ ⟨(by omega), (by rw [cnt_f (by simpa using c_30)]; exact hq), rfl, rfl, (lv_sub hl [0, 2, 3, 4] rfl)⟩ (by show m - (i + 1) < m - i; omega)
    · skip
      refine lv_iinc (v := nI (q + 1)) (lv' := [(2, .int (nI (q + 1))), (4, .ref (ea (ki i))), (3, .int (nI i)), (0, .ref sh), (1, .ref (ea ke))]) hx hb dX5_insertByRank_33 hl (k := 2) rfl (q_inc (k := 1) (by omega)) (by decide) rfl (fun ls hl => ?_)
      refine lv_iinc (v := nI (i + 1)) (lv' := [(3, .int (nI (i + 1))), (2, .int (nI (q + 1))), (4, .ref (ea (ki i))), (0, .ref sh), (1, .ref (ea ke))]) hx hb dX5_insertByRank_36 hl (k := 2) rfl (q_inc (k := 1) (by omega)) (by decide) rfl (fun ls hl => ?_)
      refine lv_goto (tgt := 4) hx hb dX5_insertByRank_39 (by decide) ?_
      exact ih_4 (i + 1, q + 1) _ _ _ ⟨(by omega), (by rw [cnt_t (by simpa using c_30), hq]), rfl, rfl, (lv_sub hl [0, 1, 3, 4] rfl)⟩ (by show m - (i + 1) < m - i; omega)

set_option maxRecDepth 20000 in
theorem iX5_remove_X5 : ∀ w ∈ wsX50, w ∈ wsX5_remove := by decide +kernel
set_option maxHeartbeats 4000000 in
set_option maxRecDepth 100000 in
/-- Shelf.remove -/
theorem c_X5_remove (l : Launch) (D : va_G) (sz : Nat) (sh : Nat) (ar : Nat) (cS : ClassId) (f : Nat → Option Nat) (m : Nat) (ki : Nat → Nat) (p9 : Nat) (ke : Nat) (ea : Nat → Nat) (wa : Nat → Nat) (pf : Nat → Option Nat) (cn : Nat → Nat) (dp : Nat → Nat) (oc : Nat → Nat) (ic : Nat → Int32) (lf : Nat → Int32) (pt : Nat → Int32) (wd : Nat → Nat) (n : Nat) (hnd : ([sh, ar] ++ ([] ++ (rg ea n ++ rg wa n))).Nodup) (hm : m ≤ 40) (hp : p9 < m) (hkp : ki p9 = ke) (hdis : ∀ j, j < m → j ≠ p9 → ea (ki j) ≠ ea ke) (hf : ∀ j, j < m → f j = some (ea (ki j))) (hki : ∀ j, j < m → ki j < n) : Met l yX5_remove wsX5_remove { frames := 0, cells := 0, slots := 0, locals := 0 } (va_Pc [.ref sh, .ref (ea ke)] (qW D sz ([] ++ (EW ea wa pf cn dp oc ic lf pt n ++ WW wa wd n)) [(sh, .inr (4, [.ref ar, .int (nI m)])), (ar, .inl (cS, 40, .inr (.inr (.inr (.inr f)))))] [(cS, .object "FuzzyFens$Entry")])) (va_Qv (fun (uv : (Nat → Option Nat)) => ∀ j, j < m - 1 → uv j = some (ea (remF ki p9 j))) (fun (uv : (Nat → Option Nat)) (tv : State) => va_P D vwCl [(sh, .inr (4, [.ref ar, .int (nI (m - 1))])), (ar, .inl (cS, 40, .inr (.inr (.inr (.inr uv)))))] tv.heap) (va_A [(sh, .inr (4, [.ref ar, .int (nI m)])), (ar, .inl (cS, 40, .inr (.inr (.inr (.inr f)))))] sz)) 0 0 (va_A [(sh, .inr (4, [.ref ar, .int (nI m)])), (ar, .inl (cS, 40, .inr (.inr (.inr (.inr f)))))] sz) := by
  refine Met.ofW (cc := cX5_remove) (maxL := 4) (ret := none) (by decide) rfl ?_
  intro pM eM s mi9 argsM belowM methM cM sM B hml hv
  obtain ⟨rfl, hsz, hR0, hP, hK, hNw⟩ := hv
  have hx := B.exec
  have hb := B.bytes
  have hr := B.returns
  have hts := atoms_spec (ws := wsX5_remove) B.pre
  have hown : s.vm.findClass RX5 = some mi9.cls := findClass_of_methodNamed B.named
  have hlocks := B.notSynchronized
  subst hsz
  have hna := q_na (RW := [(sh, .inr (4, [.ref ar, .int (nI m)])), (ar, .inl (cS, 40, .inr (.inr (.inr (.inr f)))))]) (RO := [] ++ (EW ea wa pf cn dp oc ic lf pt n ++ WW wa wd n)) hnd rfl (by rw [List.map_append, List.map_append, EW_fst, WW_fst]; rfl) hR0
  have hD := q_D (RW := [(sh, .inr (4, [.ref ar, .int (nI m)])), (ar, .inl (cS, 40, .inr (.inr (.inr (.inr f)))))]) (sz := s.heap.size) hnd rfl
  have hA : ∀ q : Nat, s.heap.size ≤ q → va_A [(sh, .inr (4, [.ref ar, .int (nI m)])), (ar, .inl (cS, 40, .inr (.inr (.inr (.inr f)))))] s.heap.size q := fun q h => Or.inr h
  generalize hAe : va_A [(sh, .inr (4, [.ref ar, .int (nI m)])), (ar, .inl (cS, 40, .inr (.inr (.inr (.inr f)))))] s.heap.size = A at hna hD hA ⊢
  have hS : va_S A s.heap s.heap [] := va_S.rf
  have hR := hR0
  have hP : va_P D vwCl [(sh, .inr (4, [.ref ar, .int (nI m)])), (ar, .inl (cS, 40, .inr (.inr (.inr (.inr f)))))] s.heap := hP
  have hl := lv_entry ([.ref sh, .ref (ea ke)]) (n := 4) (Nat.le_of_ble_eq_true rfl)
  rw [lg_entry_eq]
  generalize (lg_sl ([.ref sh, .ref (ea ke)]) ++ List.replicate (4 - (lg_sl ([.ref sh, .ref (ea ke)])).length) Slot.unset).toArray = ls at hl ⊢
  have hl : lv_has ls 4 [(0, .ref sh), (1, .ref (ea ke))] := hl
  refine lv_iconst (v := nI 0) hx hb dX5_remove_0 (by decide) ?_
  refine lv_istore_n (lv' := [(2, .int (nI 0)), (0, .ref sh), (1, .ref (ea ke))]) hx hb dX5_remove_1 rfl hl (by decide) rfl (fun ls hl => ?_)
  refine lv_iconst (v := nI 0) hx hb dX5_remove_2 (by decide) ?_
  refine lv_istore_n (lv' := [(3, .int (nI 0)), (2, .int (nI 0)), (0, .ref sh), (1, .ref (ea ke))]) hx hb dX5_remove_3 rfl hl (by decide) rfl (fun ls hl => ?_)
  refine q_loop (fun (x : (Nat) × (Nat) × (Nat → Option Nat)) (H : Heap) (locs : List Loc) (ls : Array Slot) => match x with | (i, kt, f1) => (i ≤ m) ∧ ((i ≤ p9 ∧ kt = i) ∨ (p9 < i ∧ kt + 1 = i)) ∧ (∀ j, j < kt → f1 j = some (ea (remF ki p9 j))) ∧ (∀ j, kt ≤ j → f1 j = f j) ∧ va_P D vwCl [(sh, .inr (4, [.ref ar, .int (nI m)])), (ar, .inl (cS, 40, .inr (.inr (.inr (.inr f1)))))] H ∧ va_D A [(sh, .inr (4, [.ref ar, .int (nI m)])), (ar, .inl (cS, 40, .inr (.inr (.inr (.inr f1)))))] ∧ va_S A s.heap H locs ∧ lv_has ls 4 [(3, .int (nI i)), (2, .int (nI kt)), (0, .ref sh), (1, .ref (ea ke))]) (fun (x : (Nat) × (Nat) × (Nat → Option Nat)) => match x with | (i, kt, f1) => m - i) (0, 0, f) ⟨(by omega), (by omega), (fun j hj => by omega), (fun j _ => rfl), hP, hD, hS, (lv_sub hl [0, 1, 2, 3] rfl)⟩ ?_
  clear hl
  clear hP hD hS
  rintro ⟨i, kt, f1⟩ H locs ls hI ih_4
  obtain ⟨hi, hkt, hlo, hhi, hP, hD, hS, hl⟩ := hI
  have hR := q_ro hR0 hna hS
  refine lv_iload_n hx hb dX5_remove_4 rfl (lv_at hl 0 rfl) ?_
  refine lv_aload_n hx hb dX5_remove_5 rfl (lv_at hl 2 rfl) ?_
  refine va_get (D := D) (own := RX5) (ref := "FuzzyFens$Shelf") (ci := 4) (v := .int (nI m)) (C := RX5) (T := TX5) (N := 2) hx hb hts iX5_remove_X5 hown hK hP 0 rfl rfl 1 (by decide) (hts (.fieldLink RX5 17 "FuzzyFens$Shelf" "size" "I") (List.mem_of_getElem? (i := 1) rfl)) (fun _ h9 => h9) rfl dX5_remove_6 ?_
  refine q_icmp_ge (a := i) (b := m) (tgt := 52) hx hb dX5_remove_9 (by decide) (by omega) (by omega) (fun c_9 => ?_) (fun c_9 => ?_)
  · skip
    refine lv_aload_n hx hb dX5_remove_52 rfl (lv_at hl 2 rfl) ?_
    refine lv_iload_n hx hb dX5_remove_53 rfl (lv_at hl 1 rfl) ?_
    refine va_put (D := D) (ci := 4) (v := .int (nI kt)) (ty := .int) (C := RX5) (T := TX5) (N := 2) hx hb hts iX5_remove_X5 tyX5 tyX5_ok nmX5 hown hK hP hD hS 0 rfl rfl 1 (by decide) (hts (.fieldLink RX5 17 "FuzzyFens$Shelf" "size" "I") (List.mem_of_getElem? (i := 1) rfl)) (fun _ h9 => h9) rfl (by decide +kernel) rfl rfl (Nat.le_of_ble_eq_true rfl) dX5_remove_54 (fun H_1 locs_2 hP hD hS => ?_)
    have hP : va_P D vwCl [(sh, .inr (4, [.ref ar, .int (nI kt)])), (ar, .inl (cS, 40, .inr (.inr (.inr (.inr f1)))))] H_1 := hP
    have hD : va_D A [(sh, .inr (4, [.ref ar, .int (nI kt)])), (ar, .inl (cS, 40, .inr (.inr (.inr (.inr f1)))))] := hD
    have hR := q_ro hR0 hna hS
    have ek : kt = m - 1 := by omega
    subst ek
    exact W.vret hx hb hr (fun t9 ht hW => ⟨⟨f1, rfl, hlo, by show va_P D vwCl _ t9.heap; rw [ht]; exact hP⟩, hS.F ht⟩) hS.2.2 dX5_remove_57
  · skip
    refine lv_iload_n hx hb dX5_remove_12 rfl (lv_at hl 0 rfl) ?_
    refine lv_aload_n hx hb dX5_remove_13 rfl (lv_at hl 2 rfl) ?_
    refine va_get (D := D) (own := RX5) (ref := "FuzzyFens$Shelf") (ci := 4) (v := .ref ar) (C := RX5) (T := TX5) (N := 2) hx hb hts iX5_remove_X5 hown hK hP 0 rfl rfl 0 (by decide) (hts (.fieldLink RX5 11 "FuzzyFens$Shelf" "entries" "[LFuzzyFens$Entry;") (List.mem_of_getElem? (i := 2) rfl)) (fun _ h9 => h9) rfl dX5_remove_14 ?_
    refine va_alen (D := D) (v := nI 40) hx hb hK hP 1 0 rfl rfl rfl dX5_remove_17 ?_
    refine q_icmp_ge (a := i) (b := 40) (tgt := 52) hx hb dX5_remove_18 (by decide) (by omega) (by omega) (fun c_18 => False.elim (by omega)) (fun c_18 => ?_)
    refine lv_aload_n hx hb dX5_remove_21 rfl (lv_at hl 2 rfl) ?_
    refine va_get (D := D) (own := RX5) (ref := "FuzzyFens$Shelf") (ci := 4) (v := .ref ar) (C := RX5) (T := TX5) (N := 2) hx hb hts iX5_remove_X5 hown hK hP 0 rfl rfl 0 (by decide) (hts (.fieldLink RX5 11 "FuzzyFens$Shelf" "entries" "[LFuzzyFens$Entry;") (List.mem_of_getElem? (i := 2) rfl)) (fun _ h9 => h9) rfl dX5_remove_22 ?_
    refine lv_iload_n hx hb dX5_remove_25 rfl (lv_at hl 0 rfl) ?_
    refine va_aldq (D := D) hx hb hK hP 1 0 rfl rfl (vp_in_nI (n := i) (N := 40) (by omega) (by decide)) dX5_remove_26 ?_
    rw [nI_clamp (n := i) (by omega)]
    have e9 : f1 i = some (ea (ki i)) := by rw [hhi _ (by omega)]; exact hf _ (by omega)
    have hk9 := hki i (by omega)
    refine q_cvv (show va_rf (f1 i) = .ref (ea (ki i)) from (by rw [e9]; rfl)) ?_
    refine lv_aload_n hx hb dX5_remove_27 rfl (lv_at hl 3 rfl) ?_
    refine lv_acmp_eq (rx := (some (ea (ki i)))) (ry := (some (ea ke))) (tgt := 46) hx hb dX5_remove_28 (by decide) (fun c_28 => ?_) (fun c_28 => ?_)
    · skip
      refine lv_iinc (v := nI (i + 1)) (lv' := [(3, .int (nI (i + 1))), (2, .int (nI kt)), (0, .ref sh), (1, .ref (ea ke))]) hx hb dX5_remove_46 hl (k := 0) rfl (q_inc (k := 1) (by omega)) (by decide) rfl (fun ls hl => ?_)
      refine lv_goto (tgt := 4) hx hb dX5_remove_49 (by decide) ?_
      have ep : i = p9 := Decidable.byContradiction (fun hne => hdis i (by omega) hne (Option.some.inj c_28))
      exact ih_4 (i + 1, kt, f1) _ _ _ ⟨(by omega), (by omega), (by omega), (by omega), hP, hD, hS, (lv_sub hl [0, 1, 2, 3] rfl)⟩ (by show m - (i + 1) < m - i; omega)
    · skip
      refine lv_aload_n hx hb dX5_remove_31 rfl (lv_at hl 2 rfl) ?_
      refine va_get (D := D) (own := RX5) (ref := "FuzzyFens$Shelf") (ci := 4) (v := .ref ar) (C := RX5) (T := TX5) (N := 2) hx hb hts iX5_remove_X5 hown hK hP 0 rfl rfl 0 (by decide) (hts (.fieldLink RX5 11 "FuzzyFens$Shelf" "entries" "[LFuzzyFens$Entry;") (List.mem_of_getElem? (i := 2) rfl)) (fun _ h9 => h9) rfl dX5_remove_32 ?_
      refine lv_iload_n hx hb dX5_remove_35 rfl (lv_at hl 1 rfl) ?_
      refine lv_aload_n hx hb dX5_remove_36 rfl (lv_at hl 2 rfl) ?_
      refine va_get (D := D) (own := RX5) (ref := "FuzzyFens$Shelf") (ci := 4) (v := .ref ar) (C := RX5) (T := TX5) (N := 2) hx hb hts iX5_remove_X5 hown hK hP 0 rfl rfl 0 (by decide) (hts (.fieldLink RX5 11 "FuzzyFens$Shelf" "entries" "[LFuzzyFens$Entry;") (List.mem_of_getElem? (i := 2) rfl)) (fun _ h9 => h9) rfl dX5_remove_37 ?_
      refine lv_iload_n hx hb dX5_remove_40 rfl (lv_at hl 0 rfl) ?_
      refine va_aldq (D := D) hx hb hK hP 1 0 rfl rfl (vp_in_nI (n := i) (N := 40) (by omega) (by decide)) dX5_remove_41 ?_
      rw [nI_clamp (n := i) (by omega)]
      have e9 : f1 i = some (ea (ki i)) := by rw [hhi _ (by omega)]; exact hf _ (by omega)
      have hk9 := hki i (by omega)
      refine q_cvv (show va_rf (f1 i) = .ref (ea (ki i)) from (by rw [e9]; rfl)) ?_
      refine va_astqM (D := D) hx hb hK hP hD hS 1 0 rfl rfl (E_any hK (E_at hR (ki i) hk9)) (vp_in_nI (n := kt) (N := 40) (by omega) (by decide)) dX5_remove_42 (fun H_3 locs_4 hP hD hS => ?_)
      rw [nI_clamp (n := kt) (by omega)] at hP hD
      have hP : va_P D vwCl [(sh, .inr (4, [.ref ar, .int (nI m)])), (ar, .inl (cS, 40, .inr (.inr (.inr (.inr (va_up f1 kt (some (ea (ki i)))))))))] H_3 := hP
      have hD : va_D A [(sh, .inr (4, [.ref ar, .int (nI m)])), (ar, .inl (cS, 40, .inr (.inr (.inr (.inr (va_up f1 kt (some (ea (ki i)))))))))] := hD
      have hR := q_ro hR0 hna hS
      refine lv_iinc (v := nI (kt + 1)) (lv' := [(2, .int (nI (kt + 1))), (3, .int (nI i)), (0, .ref sh), (1, .ref (ea ke))]) hx hb dX5_remove_43 hl (k := 1) rfl (q_inc (k := 1) (by omega)) (by decide) rfl (fun ls hl => ?_)
      refine lv_iinc (v := nI (i + 1)) (lv' := [(3, .int (nI (i + 1))), (2, .int (nI (kt + 1))), (0, .ref sh), (1, .ref (ea ke))]) hx hb dX5_remove_46 hl (k := 1) rfl (q_inc (k := 1) (by omega)) (by decide) rfl (fun ls hl => ?_)
      refine lv_goto (tgt := 4) hx hb dX5_remove_49 (by decide) ?_
      have ep : i ≠ p9 := fun he => c_28 (by rw [he, hkp])
      exact ih_4 (i + 1, kt + 1, va_up f1 kt (some (ea (ki i)))) _ _ _ ⟨(by omega), (by omega), (fun j hj => by by_cases e : j = kt; (rw [e, q_ups]; unfold remF; by_cases e3 : kt < p9; (rw [if_pos e3, show kt = i by omega]); (rw [if_neg e3, show kt + 1 = i by omega])); (rw [q_upn e]; exact hlo j (by omega))), (fun j hj => by rw [q_upn (by omega)]; exact hhi j (by omega)), hP, hD, hS, (lv_sub hl [0, 1, 2, 3] rfl)⟩ (by show m - (i + 1) < m - i; omega)
