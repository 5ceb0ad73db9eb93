set_option maxHeartbeats 4000000 in
set_option maxRecDepth 100000 in
/-- Grid.isInside: within -/
theorem c_X2_isInside (l : Launch) (D : va_G) (r : Nat) (k : Nat) (hr1 : r < 11) (hk1 : k < 11) : Met l yX2_isInside wsX2_isInside { frames := 0, cells := 0, slots := 0, locals := 0 } (va_Pc [.int (nI r), .int (nI k)] (qP D ([]) [])) (vp_Si (fun rv : Int32 => rv = nI 1)) 0 0 (fun _ => False) := by
  refine Met.ofW (cc := cX2_isInside) (maxL := 2) (ret := (some .boolean)) (by decide) rfl ?_
  intro pM eM s mi9 argsM belowM methM cM sM B hml hv
  obtain ⟨rfl, hR, hK, hNw⟩ := hv
  have hx := B.exec
  have hb := B.bytes
  have hr := B.returns
  have hts := atoms_spec (ws := wsX2_isInside) B.pre
  have hown : s.vm.findClass RX2 = some mi9.cls := findClass_of_methodNamed B.named
  have hlocks := B.notSynchronized
  have hS : va_S (fun _ => False) s.heap s.heap [] := va_S.rf
  have hR : va_P D vwCl ([]) s.heap := hR
  have hl := lv_entry ([.int (nI r), .int (nI k)]) (n := 2) (Nat.le_of_ble_eq_true rfl)
  rw [lg_entry_eq]
  generalize (lg_sl ([.int (nI r), .int (nI k)]) ++ List.replicate (2 - (lg_sl ([.int (nI r), .int (nI k)])).length) Slot.unset).toArray = ls at hl ⊢
  have hl : lv_has ls 2 [(0, .int (nI r)), (1, .int (nI k))] := hl
  refine lv_iload_n hx hb dX2_isInside_0 rfl (lv_at hl 0 rfl) ?_
  refine q_if_lt (a := r) (tgt := 24) hx hb dX2_isInside_1 (by decide) (by omega) ?_
  refine lv_iload_n hx hb dX2_isInside_4 rfl (lv_at hl 0 rfl) ?_
  refine lv_bipush (v := nI 11) hx hb dX2_isInside_5 (by decide) ?_
  refine q_icmp_ge (a := r) (b := 11) (tgt := 24) hx hb dX2_isInside_7 (by decide) (by omega) (by omega) (fun c_7 => ?_) (fun c_7 => ?_)
  · skip
    refine lv_iconst (v := nI 0) hx hb dX2_isInside_24 (by decide) ?_
    exact W.zret (v := nI 0) hx hb hr (by decide) (fun t9 ht _ => ⟨nI 0, rfl, (by first | rfl | exact congrArg nI (by omega)), ht⟩) (fun _ h => absurd h List.not_mem_nil) dX2_isInside_25
  · skip
    refine lv_iload_n hx hb dX2_isInside_10 rfl (lv_at hl 1 rfl) ?_
    refine q_if_lt (a := k) (tgt := 24) hx hb dX2_isInside_11 (by decide) (by omega) ?_
    refine lv_iload_n hx hb dX2_isInside_14 rfl (lv_at hl 1 rfl) ?_
    refine lv_bipush (v := nI 11) hx hb dX2_isInside_15 (by decide) ?_
    refine q_icmp_ge (a := k) (b := 11) (tgt := 24) hx hb dX2_isInside_17 (by decide) (by omega) (by omega) (fun c_17 => ?_) (fun c_17 => ?_)
    · skip
      refine lv_iconst (v := nI 0) hx hb dX2_isInside_24 (by decide) ?_
      exact W.zret (v := nI 0) hx hb hr (by decide) (fun t9 ht _ => ⟨nI 0, rfl, (by first | rfl | exact congrArg nI (by omega)), ht⟩) (fun _ h => absurd h List.not_mem_nil) dX2_isInside_25
    · skip
      refine lv_iconst (v := nI 1) hx hb dX2_isInside_20 (by decide) ?_
      refine lv_goto (tgt := 25) hx hb dX2_isInside_21 (by decide) ?_
      exact W.zret (v := nI 1) hx hb hr (by decide) (fun t9 ht _ => ⟨nI 1, rfl, rfl, ht⟩) (fun _ h => absurd h List.not_mem_nil) dX2_isInside_25

set_option maxRecDepth 20000 in
theorem iX2_at_X2 : ∀ w ∈ wsX20, w ∈ wsX2_at := by decide +kernel
set_option maxHeartbeats 4000000 in
set_option maxRecDepth 100000 in
/-- Grid.at -/
theorem c_X2_at (l : Launch) (D : va_G) (g : Nat) (ce : Nat) (cA : ClassId) (f : Nat → Int32) (r : Nat) (k : Nat) (hr1 : r < 11) (hk1 : k < 11) : Met l yX2_at wsX2_at { frames := 1, cells := 0, slots := 0, locals := 21 } (va_Pc [.ref g, .int (nI r), .int (nI k)] (qP D ([(g, .inr (2, [.ref ce])), (ce, .inl (cA, 121, .inl f))]) [(cA, .int)])) (vp_Si (fun rv : Int32 => rv = f (11 * r + k))) 0 0 (fun _ => False) := by
  refine Met.ofW (cc := cX2_at) (maxL := 3) (ret := (some .int)) (by decide) rfl ?_
  intro pM eM s mi9 argsM belowM methM cM sM B hml hv
  obtain ⟨rfl, hR, hK, hNw⟩ := hv
  have hx := B.exec
  have hb := B.bytes
  have hr := B.returns
  have hts := atoms_spec (ws := wsX2_at) B.pre
  have hown : s.vm.findClass RX2 = some mi9.cls := findClass_of_methodNamed B.named
  have hlocks := B.notSynchronized
  have hS : va_S (fun _ => False) s.heap s.heap [] := va_S.rf
  have hR : va_P D vwCl ([(g, .inr (2, [.ref ce])), (ce, .inl (cA, 121, .inl f))]) s.heap := hR
  have hl := lv_entry ([.ref g, .int (nI r), .int (nI k)]) (n := 3) (Nat.le_of_ble_eq_true rfl)
  rw [lg_entry_eq]
  generalize (lg_sl ([.ref g, .int (nI r), .int (nI k)]) ++ List.replicate (3 - (lg_sl ([.ref g, .int (nI r), .int (nI k)])).length) Slot.unset).toArray = ls at hl ⊢
  have hl : lv_has ls 3 [(0, .ref g), (1, .int (nI r)), (2, .int (nI k))] := hl
  refine lv_iload_n hx hb dX2_at_0 rfl (lv_at hl 1 rfl) ?_
  refine lv_iload_n hx hb dX2_at_1 rfl (lv_at hl 2 rfl) ?_
  refine vp_callSi (W.runS (As := [.int (nI r), .int (nI k)]) (rest := []) ⟨hx, hb, hml, hown, hts⟩ (c_X2_isInside (l := l) (D := D) (r := r) (k := k) (hr1 := hr1) (hk1 := hk1)) (va_cwS 2 hts gX2_at_X2_isInside rfl rfl rfl (by decide +kernel) ⟨Nat.le_of_ble_eq_true rfl, Nat.le_of_ble_eq_true rfl⟩) ⟨qP_blind, (qP_of (q_Pof (fun _ h => absurd h List.not_mem_nil)) (hK.sub (tys' := []) [] rfl) hNw)⟩ rfl rfl hl.1 rfl (lv_room (Nat.le_of_ble_eq_true rfl)) dX2_at_2 ⟨Nat.le_of_ble_eq_true rfl, Nat.le_of_ble_eq_true rfl⟩) (fun r_1 hr_1 => ?_)
  subst hr_1
  refine lv_if_eq (tgt := 22) hx hb dX2_at_5 (by decide) (fun c9 => absurd c9 (by decide)) (fun _ => ?_)
  refine lv_aload_n hx hb dX2_at_8 rfl (lv_at hl 0 rfl) ?_
  refine va_get (D := D) (own := RX2) (ref := "FuzzyFens$Grid") (ci := 2) (v := .ref ce) (C := RX2) (T := TX2) (N := 1) hx hb hts iX2_at_X2 hown hK hR 0 rfl rfl 0 (by decide) (hts (.fieldLink RX2 11 "FuzzyFens$Grid" "cells" "[I") (List.mem_of_getElem? (i := 1) rfl)) (fun _ h9 => h9) rfl dX2_at_9 ?_
  refine lv_iload_n hx hb dX2_at_12 rfl (lv_at hl 1 rfl) ?_
  refine lv_bipush (v := nI 11) hx hb dX2_at_13 (by decide) ?_
  refine q_imul (d := 11 * r) hx hb dX2_at_15 (by omega) ?_
  refine lv_iload_n hx hb dX2_at_16 rfl (lv_at hl 2 rfl) ?_
  refine q_iadd (d := 11 * r + k) hx hb dX2_at_17 (by omega) ?_
  refine va_iald (D := D) hx hb hK hR 1 0 rfl rfl (vp_in_nI (n := 11 * r + k) (N := 121) (by omega) (by decide)) dX2_at_18 ?_
  rw [nI_clamp (n := 11 * r + k) (by omega)]
  refine lv_goto (tgt := 23) hx hb dX2_at_19 (by decide) ?_
  exact W.iret (v := f (11 * r + k)) hx hb hr (fun t9 ht _ => ⟨f (11 * r + k), rfl, rfl, ht⟩) (fun _ h => absurd h List.not_mem_nil) dX2_at_23

set_option maxRecDepth 20000 in
theorem iX2_put_X2 : ∀ w ∈ wsX20, w ∈ wsX2_put := by decide +kernel
set_option maxHeartbeats 4000000 in
set_option maxRecDepth 100000 in
/-- Grid.put -/
theorem c_X2_put (l : Launch) (D : va_G) (sz : Nat) (g : Nat) (ce : Nat) (cA : ClassId) (f : Nat → Int32) (r : Nat) (k : Nat) (v : Int32) (hnd : ([ce] ++ [g]).Nodup) (hr1 : r < 11) (hk1 : k < 11) : Met l yX2_put wsX2_put { frames := 1, cells := 0, slots := 0, locals := 21 } (va_Pc [.ref g, .int (nI r), .int (nI k), .int v] (qW D sz ([(g, .inr (2, [.ref ce]))]) [(ce, .inl (cA, 121, .inl f))] [(cA, .int)])) (va_Qv (fun (uv : Unit) => True) (fun (uv : Unit) (tv : State) => va_P D vwCl [(ce, .inl (cA, 121, .inl (upd f (11 * r + k) v)))] tv.heap) (va_A [(ce, .inl (cA, 121, .inl f))] sz)) 0 0 (va_A [(ce, .inl (cA, 121, .inl f))] sz) := by
  refine Met.ofW (cc := cX2_put) (maxL := 4) (ret := none) (by decide) rfl ?_
  intro pM eM s mi9 argsM belowM methM cM sM B hml hv
  obtain ⟨rfl, hsz, hR0, hP, hK, hNw⟩ := hv
  have hx := B.exec
  have hb := B.bytes
  have hr := B.returns
  have hts := atoms_spec (ws := wsX2_put) B.pre
  have hown : s.vm.findClass RX2 = some mi9.cls := findClass_of_methodNamed B.named
  have hlocks := B.notSynchronized
  subst hsz
  have hna := q_na (RW := [(ce, .inl (cA, 121, .inl f))]) (RO := [(g, .inr (2, [.ref ce]))]) hnd rfl rfl hR0
  have hD := q_D (RW := [(ce, .inl (cA, 121, .inl f))]) (sz := s.heap.size) hnd rfl
  have hA : ∀ q : Nat, s.heap.size ≤ q → va_A [(ce, .inl (cA, 121, .inl f))] s.heap.size q := fun q h => Or.inr h
  generalize hAe : va_A [(ce, .inl (cA, 121, .inl f))] s.heap.size = A at hna hD hA ⊢
  have hS : va_S A s.heap s.heap [] := va_S.rf
  have hR := hR0
  have hP : va_P D vwCl [(ce, .inl (cA, 121, .inl f))] s.heap := hP
  have hl := lv_entry ([.ref g, .int (nI r), .int (nI k), .int v]) (n := 4) (Nat.le_of_ble_eq_true rfl)
  rw [lg_entry_eq]
  generalize (lg_sl ([.ref g, .int (nI r), .int (nI k), .int v]) ++ List.replicate (4 - (lg_sl ([.ref g, .int (nI r), .int (nI k), .int v])).length) Slot.unset).toArray = ls at hl ⊢
  have hl : lv_has ls 4 [(0, .ref g), (1, .int (nI r)), (2, .int (nI k)), (3, .int v)] := hl
  refine lv_iload_n hx hb dX2_put_0 rfl (lv_at hl 1 rfl) ?_
  refine lv_iload_n hx hb dX2_put_1 rfl (lv_at hl 2 rfl) ?_
  refine vp_callSi (W.runS (As := [.int (nI r), .int (nI k)]) (rest := []) ⟨hx, hb, hml, hown, hts⟩ (c_X2_isInside (l := l) (D := D) (r := r) (k := k) (hr1 := hr1) (hk1 := hk1)) (va_cwS 2 hts gX2_put_X2_isInside rfl rfl rfl (by decide +kernel) ⟨Nat.le_of_ble_eq_true rfl, Nat.le_of_ble_eq_true rfl⟩) ⟨qP_blind, (qP_of (q_Pof (fun _ h => absurd h List.not_mem_nil)) (hK.sub (tys' := []) [] rfl) hNw)⟩ rfl rfl hl.1 rfl (lv_room (Nat.le_of_ble_eq_true rfl)) dX2_put_2 ⟨Nat.le_of_ble_eq_true rfl, Nat.le_of_ble_eq_true rfl⟩) (fun r_1 hr_1 => ?_)
  subst hr_1
  refine lv_if_eq (tgt := 20) hx hb dX2_put_5 (by decide) (fun c9 => absurd c9 (by decide)) (fun _ => ?_)
  refine lv_aload_n hx hb dX2_put_8 rfl (lv_at hl 0 rfl) ?_
  refine va_get (D := D) (own := RX2) (ref := "FuzzyFens$Grid") (ci := 2) (v := .ref ce) (C := RX2) (T := TX2) (N := 1) hx hb hts iX2_put_X2 hown hK hR 0 rfl rfl 0 (by decide) (hts (.fieldLink RX2 11 "FuzzyFens$Grid" "cells" "[I") (List.mem_of_getElem? (i := 1) rfl)) (fun _ h9 => h9) rfl dX2_put_9 ?_
  refine lv_iload_n hx hb dX2_put_12 rfl (lv_at hl 1 rfl) ?_
  refine lv_bipush (v := nI 11) hx hb dX2_put_13 (by decide) ?_
  refine q_imul (d := 11 * r) hx hb dX2_put_15 (by omega) ?_
  refine lv_iload_n hx hb dX2_put_16 rfl (lv_at hl 2 rfl) ?_
  refine q_iadd (d := 11 * r + k) hx hb dX2_put_17 (by omega) ?_
  refine lv_iload_n hx hb dX2_put_18 rfl (lv_at hl 3 rfl) ?_
  refine va_iast (D := D) hx hb hK hP hD hS 0 0 rfl rfl (vp_in_nI (n := 11 * r + k) (N := 121) (by omega) (by decide)) dX2_put_19 (fun H_2 locs_3 hP hD hS => ?_)
  rw [nI_clamp (n := 11 * r + k) (by omega)] at hP hD
  have hP : va_P D vwCl [(ce, .inl (cA, 121, .inl (upd f (11 * r + k) (v))))] H_2 := hP
  have hD : va_D A [(ce, .inl (cA, 121, .inl (upd f (11 * r + k) (v))))] := hD
  have hR := q_ro hR0 hna hS
  exact W.vret hx hb hr (fun t9 ht hW => ⟨⟨(), rfl, trivial, by show va_P D vwCl _ t9.heap; rw [ht]; exact hP⟩, hS.F ht⟩) hS.2.2 dX2_put_20
