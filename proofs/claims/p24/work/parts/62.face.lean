set_option maxRecDepth 20000 in
theorem iX9_wordOf_X8 : ∀ w ∈ wsX80, w ∈ wsX9_wordOf := by decide +kernel
set_option maxRecDepth 20000 in
theorem aX9_wordOf_q_IA_186 : ∀ w ∈ (vx_atS RX9 186 q_IA q_nms).filter goodWord, w ∈ wsX9_wordOf := by decide +kernel
set_option maxHeartbeats 4000000 in
set_option maxRecDepth 100000 in
/-- wordOf -/
theorem c_X9_wordOf (l : Launch) (D : va_G) (sz : Nat) (a : Nat) (hst : l.stackTraces = false) (hnd : (([] : List Nat) ++ []).Nodup) (ha : a < 2 ^ 64) : vx_Met l yX9_wordOf wsX9_wordOf { frames := 6, cells := 1, slots := 6, locals := 82 } (va_Pc [.long (lN a)] (qWx D sz ([]) [] [])) (va_Qq (fun (rv : Option Nat) (uv : (Nat)) => rv = some uv ∧ gw a) (fun (uv : (Nat)) (tv : State) => va_P D vwCl ([(uv, .inr (7, [.long (lN a), .int (nI (wl a)), .long (lN (al a))]))]) tv.heap ∧ va_D (va_A [] sz) ([(uv, .inr (7, [.long (lN a), .int (nI (wl a)), .long (lN (al a))]))]) ∧ va_K D vwCl [] tv) (va_A [] sz)) (vx_X (fun _ : Unit => True) (fun (E9 : String) (uv : Unit) (tv : State) => ((E9 = q_IA ∧ (¬ gw a))) ∧ va_P D vwCl ([]) tv.heap) (va_A [] sz)) 1 6 (va_A [] sz) := by
  refine vx_ofW (cc := cX9_wordOf) (maxL := 2) (ret := (some (.object "FuzzyFens$Word"))) (by decide) rfl ?_
  intro pM eM s mi9 argsM belowM methM cM sM B hml htab hv
  obtain ⟨rfl, hsz, hR0, hP, hK, hNw, hZ, hXt⟩ := hv
  have hx := B.exec
  have hb := B.bytes
  have hr := B.returns
  have hts := atoms_spec (ws := wsX9_wordOf) B.pre
  have hown : s.vm.findClass RX9 = some mi9.cls := findClass_of_methodNamed B.named
  have hlocks := B.notSynchronized
  subst hsz
  have hna := q_na (RW := []) (RO := []) hnd rfl rfl hR0
  have hD := q_D (RW := []) (sz := s.heap.size) hnd rfl
  have hnR : (([] : va_W).map (·.1)).Nodup := by rw [show ([] : va_W).map (·.1) = [] from rfl]; exact (List.nodup_append.mp hnd).2.1
  have hA : ∀ q : Nat, s.heap.size ≤ q → va_A [] s.heap.size q := fun q h => Or.inr h
  generalize hAe : va_A [] s.heap.size = A at hna hD hA hZ ⊢
  have hS : va_S A s.heap s.heap [] := va_S.rf
  have hR := hR0
  have hP : va_P D vwCl [] s.heap := hP
  obtain ⟨⟨tR, hZR, hTR⟩, ⟨tP, hZP, hTP⟩, hUS, hSS⟩ := id hZ
  have hl := lv_entry ([.long (lN a)]) (n := 2) (Nat.le_of_ble_eq_true rfl)
  rw [lg_entry_eq]
  generalize (lg_sl ([.long (lN a)]) ++ List.replicate (2 - (lg_sl ([.long (lN a)])).length) Slot.unset).toArray = ls at hl ⊢
  have hl : lv_has ls 2 [(0, .long (lN a))] := hl
  refine lv_lload_n hx hb dX9_wordOf_0 rfl (lv_at hl 0 rfl) ?_
  refine vp_callSi (W.runS (As := [.long (lN a)]) (rest := []) ⟨hx, hb, hml, hown, hts⟩ (c_X8_isSpelledBy (l := l) (D := D) (n := a) (hn := ha)) (va_cwS 1 hts gX9_wordOf_X8_isSpelledBy rfl rfl rfl (by decide +kernel) ⟨Nat.le_of_ble_eq_true rfl, Nat.le_of_ble_eq_true rfl⟩) ⟨qP_blind, (qP_of (q_Pof (fun _ h => absurd h List.not_mem_nil)) (hK.sub (tys' := []) [] rfl) hNw)⟩ rfl rfl hl.1 rfl (lv_room (Nat.le_of_ble_eq_true rfl)) dX9_wordOf_1 ⟨Nat.le_of_ble_eq_true rfl, Nat.le_of_ble_eq_true rfl⟩) (fun r_1 hr_1 => ?_)
  subst hr_1
  refine q_ifb_ne (tgt := 17) hx hb dX9_wordOf_4 (by decide) (fun c_4 => ?_) (fun c_4 => ?_)
  · skip
    refine va_new (D := D) (ci := 7) (fs := [.long 0, .int 0, .long 0]) (C := RX8) (T := TX8) (N := 3) hx hb hts iX9_wordOf_X8 tyX8 tyX8_ok hown (hts (.classLink RX9 155 RX8) (List.mem_of_getElem? (i := 3) rfl)) (hts (.instantiable RX8 3) (List.mem_of_getElem? (i := 4) rfl)) (hts (.initialized RX8) (List.mem_of_getElem? (i := 5) rfl)) hK hP hD hS hA rfl (fun j9 h9 => by rcases (show j9 = 0 ∨ j9 = 1 ∨ j9 = 2 by omega) with rfl | rfl | rfl <;> rfl) (Nat.le_of_ble_eq_true rfl) (Nat.le_of_ble_eq_true rfl) dX9_wordOf_17 (fun q_2 H_3 hP hD hS => ?_)
    have hP : va_P D vwCl [(q_2, .inr (7, [.long 0, .int 0, .long 0]))] H_3 := hP
    have hD : va_D A [(q_2, .inr (7, [.long 0, .int 0, .long 0]))] := hD
    have hR := q_ro hR0 hna hS
    refine lv_dup hx hb dX9_wordOf_20 rfl ?_
    refine lv_lload_n hx hb dX9_wordOf_21 rfl (lv_at hl 0 rfl) ?_
    have hF := va_free (wc := [(q_2, .inr (7, [.long 0, .int 0, .long 0]))]) hD hS hA [0] rfl
    refine va_callv (va_runI (As := [.long (lN a)]) (rest := [.ref q_2]) ⟨hx, hb, hml, hown, hts⟩ (c_X8_init (l := l) (D := D) (w := q_2) (n := a) (sz := H_3.size) (hnd := (q_nds (q_ndg (l1 := [q_2]) (l2 := []) hD hnR hna rfl rfl) [0] rfl rfl)) (hg := c_4)) (cwI 1 hts ggX9_wordOf_X8_init rfl rfl rfl (hts (.initialized RX8) (List.mem_of_getElem? (i := 5) rfl)) (hts (.methodLink RX9 187 yX8_init) (List.mem_of_getElem? (i := 11) rfl)) (hts (.instanceMethod yX8_init) (List.mem_of_getElem? (i := 12) rfl)) rfl (by decide +kernel) ⟨Nat.le_of_ble_eq_true rfl, Nat.le_of_ble_eq_true rfl⟩) ⟨qW_blind, (qW_of (q_Pof (fun _ h => absurd h List.not_mem_nil)) (hP.sub (ws' := [(q_2, .inr (7, [.long 0, .int 0, .long 0]))]) [0] rfl) (hK.sub (tys' := []) [] rfl) hNw)⟩ rfl rfl hl.1 rfl (lv_room (Nat.le_of_ble_eq_true rfl)) dX9_wordOf_22 ⟨Nat.le_of_ble_eq_true rfl, Nat.le_of_ble_eq_true rfl⟩) hS (fun q _ h => hF q h) hF (fun u_8 t_7 H_5 locs_6 ht hvm hr_4 hB hz1 hk1 hS => ?_)
    replace hB : va_P D vwCl [(q_2, .inr (7, [.long (lN a), .int (nI (wl a)), .long (lN (al a))]))] H_5 := by rw [← ht]; exact hB
    obtain ⟨hP, hD⟩ := q_join (wc := [(q_2, .inr (7, [.long 0, .int 0, .long 0]))]) (w1 := [(q_2, .inr (7, [.long (lN a), .int (nI (wl a)), .long (lN (al a))]))]) (ws' := [(q_2, .inr (7, [.long (lN a), .int (nI (wl a)), .long (lN (al a))]))]) [0] hP hD rfl rfl hk1 hB rfl
    have hR := q_ro hR0 hna hS
    refine vx_ret ?_
    refine W.widen (k := 1) (n := 6) (Nat.le_of_ble_eq_true rfl) (Nat.le_of_ble_eq_true rfl) ?_
    exact W.aret (v := .ref q_2) hx hb hr (Or.inl ⟨_, rfl⟩) (Or.inr ⟨_, rfl⟩) (fun t9 ht hW => ⟨⟨some q_2, q_2, rfl, ⟨rfl, c_4⟩, by show va_P D vwCl _ t9.heap; rw [ht]; exact hP, hD, (va_K.moved hW.alike (hK.sub (tys' := []) [] rfl))⟩, hS.F ht⟩) hS.2.2 dX9_wordOf_25
  · skip
    obtain ⟨sa9, hsa9⟩ := hXt.2.2.1 (184, "the number is no word") (by decide)
    exact vx_throwS (own := RX9) (cls := q_IA) (text := "the number is no word") (names := q_nms) (ik := 182) (is := 184) (ic := 186) (mc := 1) (ms := 6) (sa := sa9) (A := A) hx hb hst hown (by decide +kernel) (by decide +kernel) (hts (.classLink RX9 182 "java/lang/IllegalArgumentException") (List.mem_of_getElem? (i := 1) rfl)) (hts (.initialized "java/lang/IllegalArgumentException") (List.mem_of_getElem? (i := 2) rfl)) hsa9 (q_bad hXt (by decide) (fun w9 h9 => hts w9 (aX9_wordOf_q_IA_186 w9 h9)) (by decide +kernel)) (by decide +kernel) hUS hSS hS (hl.1.trans hml.symm) dX9_wordOf_7 dX9_wordOf_10 dX9_wordOf_11 dX9_wordOf_13 dX9_wordOf_16 (fun x9 h9 => (htab x9 h9).elim) (Nat.le_of_ble_eq_true rfl) (Nat.le_of_ble_eq_true rfl) (Nat.le_of_ble_eq_true rfl) (Nat.le_of_ble_eq_true rfl) hlocks (fun t8 hvm8 hz8 hk8 => ⟨(), trivial, ⟨⟨rfl, c_4⟩, (q_kept hP hk8)⟩, ⟨Nat.le_trans hS.1 hz8, fun q8 a8 b8 => (hk8 q8 (Nat.lt_of_lt_of_le a8 hS.1)).trans (hS.2.1 q8 a8 b8)⟩⟩) hS.2.2 (Nat.le_of_ble_eq_true rfl) (Nat.le_of_ble_eq_true rfl)

set_option maxRecDepth 20000 in
theorem aX9_checkWithin_q_IA_186 : ∀ w ∈ (vx_atS RX9 186 q_IA q_nms).filter goodWord, w ∈ wsX9_checkWithin := by decide +kernel
set_option maxHeartbeats 4000000 in
set_option maxRecDepth 100000 in
/-- checkWithin -/
theorem c_X9_checkWithin (l : Launch) (D : va_G) (sz : Nat) (x9 : Int32) (lo : Nat) (hi : Nat) (hst : l.stackTraces = false) (hnd : (([] : List Nat) ++ []).Nodup) (hlo : lo < 2 ^ 31) (hhi : hi < 2 ^ 31) : vx_Met l yX9_checkWithin wsX9_checkWithin { frames := 6, cells := 1, slots := 6, locals := 82 } (va_Pc [.int x9, .int (nI lo), .int (nI hi)] (qWx D sz ([]) [] [])) (va_Qv (fun (uv : Unit) => nI lo ≤ x9 ∧ x9 ≤ nI hi) (fun (uv : Unit) (tv : State) => va_P D vwCl [] tv.heap) (va_A [] sz)) (vx_X (fun _ : Unit => True) (fun (E9 : String) (uv : Unit) (tv : State) => ((E9 = q_IA ∧ (¬ (nI lo ≤ x9 ∧ x9 ≤ nI hi)))) ∧ va_P D vwCl ([]) tv.heap) (va_A [] sz)) 1 6 (va_A [] sz) := by
  refine vx_ofW (cc := cX9_checkWithin) (maxL := 3) (ret := none) (by decide) rfl ?_
  intro pM eM s mi9 argsM belowM methM cM sM B hml htab hv
  obtain ⟨rfl, hsz, hR0, hP, hK, hNw, hZ, hXt⟩ := hv
  have hx := B.exec
  have hb := B.bytes
  have hr := B.returns
  have hts := atoms_spec (ws := wsX9_checkWithin) B.pre
  have hown : s.vm.findClass RX9 = some mi9.cls := findClass_of_methodNamed B.named
  have hlocks := B.notSynchronized
  subst hsz
  have hna := q_na (RW := []) (RO := []) hnd rfl rfl hR0
  have hD := q_D (RW := []) (sz := s.heap.size) hnd rfl
  have hnR : (([] : va_W).map (·.1)).Nodup := by rw [show ([] : va_W).map (·.1) = [] from rfl]; exact (List.nodup_append.mp hnd).2.1
  have hA : ∀ q : Nat, s.heap.size ≤ q → va_A [] s.heap.size q := fun q h => Or.inr h
  generalize hAe : va_A [] s.heap.size = A at hna hD hA hZ ⊢
  have hS : va_S A s.heap s.heap [] := va_S.rf
  have hR := hR0
  have hP : va_P D vwCl [] s.heap := hP
  obtain ⟨⟨tR, hZR, hTR⟩, ⟨tP, hZP, hTP⟩, hUS, hSS⟩ := id hZ
  have hl := lv_entry ([.int x9, .int (nI lo), .int (nI hi)]) (n := 3) (Nat.le_of_ble_eq_true rfl)
  rw [lg_entry_eq]
  generalize (lg_sl ([.int x9, .int (nI lo), .int (nI hi)]) ++ List.replicate (3 - (lg_sl ([.int x9, .int (nI lo), .int (nI hi)])).length) Slot.unset).toArray = ls at hl ⊢
  have hl : lv_has ls 3 [(0, .int x9), (1, .int (nI lo)), (2, .int (nI hi))] := hl
  refine lv_iload_n hx hb dX9_checkWithin_0 rfl (lv_at hl 0 rfl) ?_
  refine lv_iload_n hx hb dX9_checkWithin_1 rfl (lv_at hl 1 rfl) ?_
  refine lv_icmp_lt (tgt := 10) hx hb dX9_checkWithin_2 (by decide) (fun c_2 => ?_) (fun c_2 => ?_)
  · skip
    obtain ⟨sa9, hsa9⟩ := hXt.2.2.1 (190, "an argument is out of range") (by decide)
    exact vx_throwS (own := RX9) (cls := q_IA) (text := "an argument is out of range") (names := q_nms) (ik := 182) (is := 190) (ic := 186) (mc := 1) (ms := 6) (sa := sa9) (A := A) hx hb hst hown (by decide +kernel) (by decide +kernel) (hts (.classLink RX9 182 "java/lang/IllegalArgumentException") (List.mem_of_getElem? (i := 1) rfl)) (hts (.initialized "java/lang/IllegalArgumentException") (List.mem_of_getElem? (i := 2) rfl)) hsa9 (q_bad hXt (by decide) (fun w9 h9 => hts w9 (aX9_checkWithin_q_IA_186 w9 h9)) (by decide +kernel)) (by decide +kernel) hUS hSS hS (hl.1.trans hml.symm) dX9_checkWithin_10 dX9_checkWithin_13 dX9_checkWithin_14 dX9_checkWithin_16 dX9_checkWithin_19 (fun x9 h9 => (htab x9 h9).elim) (Nat.le_of_ble_eq_true rfl) (Nat.le_of_ble_eq_true rfl) (Nat.le_of_ble_eq_true rfl) (Nat.le_of_ble_eq_true rfl) hlocks (fun t8 hvm8 hz8 hk8 => ⟨(), trivial, ⟨⟨rfl, (fun h9 => by first | exact absurd h9.1 (i_nle c_2) | exact absurd h9.2 c_7)⟩, (q_kept hP hk8)⟩, ⟨Nat.le_trans hS.1 hz8, fun q8 a8 b8 => (hk8 q8 (Nat.lt_of_lt_of_le a8 hS.1)).trans (hS.2.1 q8 a8 b8)⟩⟩) hS.2.2 (Nat.le_of_ble_eq_true rfl) (Nat.le_of_ble_eq_true rfl)
  · skip
    refine lv_iload_n hx hb dX9_checkWithin_5 rfl (lv_at hl 0 rfl) ?_
    refine lv_iload_n hx hb dX9_checkWithin_6 rfl (lv_at hl 2 rfl) ?_
    refine lv_icmp_le (tgt := 20) hx hb dX9_checkWithin_7 (by decide) (fun c_7 => ?_) (fun c_7 => ?_)
    · skip
      refine vx_ret ?_
      refine W.widen (k := 1) (n := 6) (Nat.le_of_ble_eq_true rfl) (Nat.le_of_ble_eq_true rfl) ?_
      exact W.vret hx hb hr (fun t9 ht hW => ⟨⟨(), rfl, ⟨i_le c_2, c_7⟩, by show va_P D vwCl _ t9.heap; rw [ht]; exact hP⟩, hS.F ht⟩) hS.2.2 dX9_checkWithin_20
    · skip
      obtain ⟨sa9, hsa9⟩ := hXt.2.2.1 (190, "an argument is out of range") (by decide)
      exact vx_throwS (own := RX9) (cls := q_IA) (text := "an argument is out of range") (names := q_nms) (ik := 182) (is := 190) (ic := 186) (mc := 1) (ms := 6) (sa := sa9) (A := A) hx hb hst hown (by decide +kernel) (by decide +kernel) (hts (.classLink RX9 182 "java/lang/IllegalArgumentException") (List.mem_of_getElem? (i := 1) rfl)) (hts (.initialized "java/lang/IllegalArgumentException") (List.mem_of_getElem? (i := 2) rfl)) hsa9 (q_bad hXt (by decide) (fun w9 h9 => hts w9 (aX9_checkWithin_q_IA_186 w9 h9)) (by decide +kernel)) (by decide +kernel) hUS hSS hS (hl.1.trans hml.symm) dX9_checkWithin_10 dX9_checkWithin_13 dX9_checkWithin_14 dX9_checkWithin_16 dX9_checkWithin_19 (fun x9 h9 => (htab x9 h9).elim) (Nat.le_of_ble_eq_true rfl) (Nat.le_of_ble_eq_true rfl) (Nat.le_of_ble_eq_true rfl) (Nat.le_of_ble_eq_true rfl) hlocks (fun t8 hvm8 hz8 hk8 => ⟨(), trivial, ⟨⟨rfl, (fun h9 => by first | exact absurd h9.1 (i_nle c_2) | exact absurd h9.2 c_7)⟩, (q_kept hP hk8)⟩, ⟨Nat.le_trans hS.1 hz8, fun q8 a8 b8 => (hk8 q8 (Nat.lt_of_lt_of_le a8 hS.1)).trans (hS.2.1 q8 a8 b8)⟩⟩) hS.2.2 (Nat.le_of_ble_eq_true rfl) (Nat.le_of_ble_eq_true rfl)

set_option maxRecDepth 20000 in
theorem iX9_numberAt_X0 : ∀ w ∈ wsX00, w ∈ wsX9_numberAt := by decide +kernel
set_option maxRecDepth 20000 in
theorem iX9_numberAt_X8 : ∀ w ∈ wsX80, w ∈ wsX9_numberAt := by decide +kernel
set_option maxRecDepth 20000 in
theorem aX9_numberAt_q_IO_196 : ∀ w ∈ (vx_atS RX9 196 q_IO q_nms).filter goodWord, w ∈ wsX9_numberAt := by decide +kernel
set_option maxHeartbeats 4000000 in
set_option maxRecDepth 100000 in
/-- numberAt -/
theorem c_X9_numberAt (l : Launch) (D : va_G) (sz : Nat) (s2 : Nat) (a2 : Nat) (cS2 : ClassId) (fk : Nat → Option Nat) (m : Nat) (ki : Nat → Nat) (ea : Nat → Nat) (wa : Nat → Nat) (pf : Nat → Option Nat) (cn : Nat → Nat) (dp : Nat → Nat) (oc : Nat → Nat) (ic : Nat → Int32) (lf : Nat → Int32) (pt : Nat → Int32) (wd : Nat → Nat) (n : Nat) (x9 : Int32) (hst : l.stackTraces = false) (hnd : (([] : List Nat) ++ ([s2, a2] ++ (rg ea n ++ rg wa n))).Nodup) (hm : m ≤ 40) (hf : ∀ j, j < m → fk j = some (ea (ki j))) (hki : ∀ j, j < m → ki j < n) : vx_Met l yX9_numberAt wsX9_numberAt { frames := 6, cells := 1, slots := 6, locals := 82 } (va_Pc [.ref s2, .int x9] (qWx D sz ([(s2, .inr (4, [.ref a2, .int (nI m)])), (a2, .inl (cS2, 40, .inr (.inr (.inr (.inr fk)))))] ++ (EW ea wa pf cn dp oc ic lf pt n ++ WW wa wd n)) [] [(cS2, .object "FuzzyFens$Entry")])) (va_Ql (fun (rv : Int64) (uv : Unit) => rv = lN (wd (ki (kz x9))) ∧ 0 ≤ x9 ∧ x9 < nI m) (fun (uv : Unit) (tv : State) => va_P D vwCl [] tv.heap) (va_A [] sz)) (vx_X (fun _ : Unit => True) (fun (E9 : String) (uv : Unit) (tv : State) => ((E9 = q_IO ∧ (¬ (0 ≤ x9 ∧ x9 < nI m)))) ∧ va_P D vwCl ([]) tv.heap) (va_A [] sz)) 1 6 (va_A [] sz) := by
  refine vx_ofW (cc := cX9_numberAt) (maxL := 3) (ret := (some .long)) (by decide) rfl ?_
  intro pM eM s mi9 argsM belowM methM cM sM B hml htab hv
  obtain ⟨rfl, hsz, hR0, hP, hK, hNw, hZ, hXt⟩ := hv
  have hx := B.exec
  have hb := B.bytes
  have hr := B.returns
  have hts := atoms_spec (ws := wsX9_numberAt) B.pre
  have hown : s.vm.findClass RX9 = some mi9.cls := findClass_of_methodNamed B.named
  have hlocks := B.notSynchronized
  subst hsz
  have hna := q_na (RW := []) (RO := [(s2, .inr (4, [.ref a2, .int (nI m)])), (a2, .inl (cS2, 40, .inr (.inr (.inr (.inr fk)))))] ++ (EW ea wa pf cn dp oc ic lf pt n ++ WW wa wd n)) hnd rfl (by rw [List.map_append, List.map_append, EW_fst, WW_fst]; rfl) hR0
  have hD := q_D (RW := []) (sz := s.heap.size) hnd rfl
  have hnR : (([(s2, .inr (4, [.ref a2, .int (nI m)])), (a2, .inl (cS2, 40, .inr (.inr (.inr (.inr fk)))))] ++ (EW ea wa pf cn dp oc ic lf pt n ++ WW wa wd n) : va_W).map (·.1)).Nodup := by rw [show ([(s2, .inr (4, [.ref a2, .int (nI m)])), (a2, .inl (cS2, 40, .inr (.inr (.inr (.inr fk)))))] ++ (EW ea wa pf cn dp oc ic lf pt n ++ WW wa wd n) : va_W).map (·.1) = ([s2, a2] ++ (rg ea n ++ rg wa n)) from (by rw [List.map_append, List.map_append, EW_fst, WW_fst]; rfl)]; exact (List.nodup_append.mp hnd).2.1
  have hA : ∀ q : Nat, s.heap.size ≤ q → va_A [] s.heap.size q := fun q h => Or.inr h
  generalize hAe : va_A [] s.heap.size = A at hna hD hA hZ ⊢
  have hS : va_S A s.heap s.heap [] := va_S.rf
  have hR := hR0
  have hP : va_P D vwCl [] s.heap := hP
  obtain ⟨⟨tR, hZR, hTR⟩, ⟨tP, hZP, hTP⟩, hUS, hSS⟩ := id hZ
  have hl := lv_entry ([.ref s2, .int x9]) (n := 3) (Nat.le_of_ble_eq_true rfl)
  rw [lg_entry_eq]
  generalize (lg_sl ([.ref s2, .int x9]) ++ List.replicate (3 - (lg_sl ([.ref s2, .int x9])).length) Slot.unset).toArray = ls at hl ⊢
  have hl : lv_has ls 3 [(0, .ref s2), (1, .int x9)] := hl
  rcases i_tri x9 m with h7 | h7 | h7
  · skip
    refine lv_aload_n hx hb dX9_numberAt_0 rfl (lv_at hl 0 rfl) ?_
    refine lv_iload_n hx hb dX9_numberAt_1 rfl (lv_at hl 1 rfl) ?_
    refine va_csq (W.runV (As := [.int x9]) (rest := []) ⟨hx, hb, hml, hown, hts⟩ (c_X5_at_neg (l := l) (D := D) (sh := s2) (ar := a2) (cS := cS2) (f := fk) (m := m) (x9 := x9) (hneg := h7)) (cwV 1 hts gX9_numberAt_X5_at rfl rfl rfl (by decide +kernel) ⟨Nat.le_of_ble_eq_true rfl, Nat.le_of_ble_eq_true rfl⟩) ⟨qP_blind, (va_recv hK hR (ci := 4) (q0 := 0) rfl rfl), (qP_of (hR.sub (ws' := [(s2, .inr (4, [.ref a2, .int (nI m)])), (a2, .inl (cS2, 40, .inr (.inr (.inr (.inr fk)))))]) [0, 1] rfl) (hK.sub (tys' := [(cS2, .object "FuzzyFens$Entry")]) [0] rfl) hNw)⟩ rfl rfl hl.1 rfl (lv_room (Nat.le_of_ble_eq_true rfl)) dX9_numberAt_2 ⟨Nat.le_of_ble_eq_true rfl, Nat.le_of_ble_eq_true rfl⟩) (fun r_1 hr_1 => ?_)
    subst hr_1
    refine q_cvv (show va_rf none = .null from rfl) ?_
    refine lv_astore_nN (lv' := [(2, .null), (0, .ref s2), (1, .int x9)]) hx hb dX9_numberAt_5 rfl hl (by decide) rfl (fun ls hl => ?_)
    refine lv_aload_nN hx hb dX9_numberAt_6 rfl (lv_at hl 0 rfl) ?_
    refine lv_ifnonnullN hx hb dX9_numberAt_7 ?_
    obtain ⟨sa9, hsa9⟩ := hXt.2.2.1 (194, "there is no such place") (by decide)
    exact vx_throwS (own := RX9) (cls := q_IO) (text := "there is no such place") (names := q_nms) (ik := 192) (is := 194) (ic := 196) (mc := 1) (ms := 6) (sa := sa9) (A := A) hx hb hst hown (by decide +kernel) (by decide +kernel) (hts (.classLink RX9 192 "java/lang/IndexOutOfBoundsException") (List.mem_of_getElem? (i := 1) rfl)) (hts (.initialized "java/lang/IndexOutOfBoundsException") (List.mem_of_getElem? (i := 2) rfl)) hsa9 (q_bad hXt (by decide) (fun w9 h9 => hts w9 (aX9_numberAt_q_IO_196 w9 h9)) (by decide +kernel)) (by decide +kernel) hUS hSS hS (hl.1.trans hml.symm) dX9_numberAt_10 dX9_numberAt_13 dX9_numberAt_14 dX9_numberAt_16 dX9_numberAt_19 (fun x9 h9 => (htab x9 h9).elim) (Nat.le_of_ble_eq_true rfl) (Nat.le_of_ble_eq_true rfl) (Nat.le_of_ble_eq_true rfl) (Nat.le_of_ble_eq_true rfl) hlocks (fun t8 hvm8 hz8 hk8 => ⟨(), trivial, ⟨⟨rfl, (fun h8 => i_nle h7 h8.1)⟩, (q_kept hP hk8)⟩, ⟨Nat.le_trans hS.1 hz8, fun q8 a8 b8 => (hk8 q8 (Nat.lt_of_lt_of_le a8 hS.1)).trans (hS.2.1 q8 a8 b8)⟩⟩) hS.2.2 (Nat.le_of_ble_eq_true rfl) (Nat.le_of_ble_eq_true rfl)
  · skip
    refine lv_aload_n hx hb dX9_numberAt_0 rfl (lv_at hl 0 rfl) ?_
    refine lv_iload_n hx hb dX9_numberAt_1 rfl (lv_at hl 1 rfl) ?_
    refine va_csq (W.runV (As := [.int x9]) (rest := []) ⟨hx, hb, hml, hown, hts⟩ (c_X5_at_hi (l := l) (D := D) (sh := s2) (ar := a2) (cS := cS2) (f := fk) (m := m) (x9 := x9) (hhi := h7)) (cwV 1 hts gX9_numberAt_X5_at rfl rfl rfl (by decide +kernel) ⟨Nat.le_of_ble_eq_true rfl, Nat.le_of_ble_eq_true rfl⟩) ⟨qP_blind, (va_recv hK hR (ci := 4) (q0 := 0) rfl rfl), (qP_of (hR.sub (ws' := [(s2, .inr (4, [.ref a2, .int (nI m)])), (a2, .inl (cS2, 40, .inr (.inr (.inr (.inr fk)))))]) [0, 1] rfl) (hK.sub (tys' := [(cS2, .object "FuzzyFens$Entry")]) [0] rfl) hNw)⟩ rfl rfl hl.1 rfl (lv_room (Nat.le_of_ble_eq_true rfl)) dX9_numberAt_2 ⟨Nat.le_of_ble_eq_true rfl, Nat.le_of_ble_eq_true rfl⟩) (fun r_2 hr_2 => ?_)
    subst hr_2
    refine q_cvv (show va_rf none = .null from rfl) ?_
    refine lv_astore_nN (lv' := [(2, .null), (0, .ref s2), (1, .int x9)]) hx hb dX9_numberAt_5 rfl hl (by decide) rfl (fun ls hl => ?_)
    refine lv_aload_nN hx hb dX9_numberAt_6 rfl (lv_at hl 0 rfl) ?_
    refine lv_ifnonnullN hx hb dX9_numberAt_7 ?_
    obtain ⟨sa9, hsa9⟩ := hXt.2.2.1 (194, "there is no such place") (by decide)
    exact vx_throwS (own := RX9) (cls := q_IO) (text := "there is no such place") (names := q_nms) (ik := 192) (is := 194) (ic := 196) (mc := 1) (ms := 6) (sa := sa9) (A := A) hx hb hst hown (by decide +kernel) (by decide +kernel) (hts (.classLink RX9 192 "java/lang/IndexOutOfBoundsException") (List.mem_of_getElem? (i := 1) rfl)) (hts (.initialized "java/lang/IndexOutOfBoundsException") (List.mem_of_getElem? (i := 2) rfl)) hsa9 (q_bad hXt (by decide) (fun w9 h9 => hts w9 (aX9_numberAt_q_IO_196 w9 h9)) (by decide +kernel)) (by decide +kernel) hUS hSS hS (hl.1.trans hml.symm) dX9_numberAt_10 dX9_numberAt_13 dX9_numberAt_14 dX9_numberAt_16 dX9_numberAt_19 (fun x9 h9 => (htab x9 h9).elim) (Nat.le_of_ble_eq_true rfl) (Nat.le_of_ble_eq_true rfl) (Nat.le_of_ble_eq_true rfl) (Nat.le_of_ble_eq_true rfl) hlocks (fun t8 hvm8 hz8 hk8 => ⟨(), trivial, ⟨⟨rfl, (fun h8 => i_nle h8.2 h7)⟩, (q_kept hP hk8)⟩, ⟨Nat.le_trans hS.1 hz8, fun q8 a8 b8 => (hk8 q8 (Nat.lt_of_lt_of_le a8 hS.1)).trans (hS.2.1 q8 a8 b8)⟩⟩) hS.2.2 (Nat.le_of_ble_eq_true rfl) (Nat.le_of_ble_eq_true rfl)
  · skip
    have hz9 := kz_lt (by omega) h7.1 h7.2
    refine lv_aload_n hx hb dX9_numberAt_0 rfl (lv_at hl 0 rfl) ?_
    have hl : lv_has ls 3 [(0, .ref s2), (1, .int (nI (kz x9)))] := (congrArg (fun v9 => lv_has ls 3 [(0, .ref s2), (1, .int v9)]) (kz_of h7.1)).mp hl
    refine lv_iload_n hx hb dX9_numberAt_1 rfl (lv_at hl 1 rfl) ?_
    refine va_csq (W.runV (As := [.int (nI (kz x9))]) (rest := []) ⟨hx, hb, hml, hown, hts⟩ (c_X5_at (l := l) (D := D) (sh := s2) (ar := a2) (cS := cS2) (f := fk) (m := m) (i := kz x9) (hi := by omega) (hm := hm)) (cwV 1 hts gX9_numberAt_X5_at rfl rfl rfl (by decide +kernel) ⟨Nat.le_of_ble_eq_true rfl, Nat.le_of_ble_eq_true rfl⟩) ⟨qP_blind, (va_recv hK hR (ci := 4) (q0 := 0) rfl rfl), (qP_of (hR.sub (ws' := [(s2, .inr (4, [.ref a2, .int (nI m)])), (a2, .inl (cS2, 40, .inr (.inr (.inr (.inr fk)))))]) [0, 1] rfl) (hK.sub (tys' := [(cS2, .object "FuzzyFens$Entry")]) [0] rfl) hNw)⟩ rfl rfl hl.1 rfl (lv_room (Nat.le_of_ble_eq_true rfl)) dX9_numberAt_2 ⟨Nat.le_of_ble_eq_true rfl, Nat.le_of_ble_eq_true rfl⟩) (fun r_3 hr_3 => ?_)
    subst hr_3
    have e9 : fk (kz x9) = some (ea (ki (kz x9))) := hf _ (by omega)
    have hk9 := hki (kz x9) (by omega)
    refine q_cvv (show va_rf (fk (kz x9)) = .ref (ea (ki (kz x9))) from (by rw [e9]; rfl)) ?_
    refine lv_astore_n (lv' := [(2, .ref (ea (ki (kz x9)))), (0, .ref s2), (1, .int (nI (kz x9)))]) hx hb dX9_numberAt_5 rfl hl (by decide) rfl (fun ls hl => ?_)
    refine lv_aload_n hx hb dX9_numberAt_6 rfl (lv_at hl 0 rfl) ?_
    refine lv_ifnonnull (tgt := 20) hx hb dX9_numberAt_7 (by decide) ?_
    refine lv_aload_n hx hb dX9_numberAt_20 rfl (lv_at hl 0 rfl) ?_
    refine va_getN (host := "FuzzyFens") (D := D) (own := RX9) (ref := "FuzzyFens$Entry") (ci := 0) (v := .ref (wa (ki (kz x9)))) (C := RX0) (T := TX0) (N := 8) hx hb hts iX9_numberAt_X0 hown hK (E_at hR (ki (kz x9)) (by omega)) 0 rfl rfl 0 (by decide) (va_Nw.use rfl (hNw.1 ("FuzzyFens", 123, "FuzzyFens$Entry", "word", "LFuzzyFens$Word;") (List.mem_of_getElem? (i := 8) rfl))) (fun _ h9 => h9) rfl dX9_numberAt_21 ?_
    refine va_getN (host := "FuzzyFens") (D := D) (own := RX9) (ref := "FuzzyFens$Word") (ci := 7) (v := .long (lN (wd (ki (kz x9))))) (C := RX8) (T := TX8) (N := 3) hx hb hts iX9_numberAt_X8 hown hK (W_at hR (ki (kz x9)) (by omega)) 0 rfl rfl 0 (by decide) (va_Nw.use rfl (hNw.1 ("FuzzyFens", 154, "FuzzyFens$Word", "number", "J") (List.mem_of_getElem? (i := 1) rfl))) (fun _ h9 => h9) rfl dX9_numberAt_24 ?_
    refine vx_ret ?_
    refine W.widen (k := 1) (n := 6) (Nat.le_of_ble_eq_true rfl) (Nat.le_of_ble_eq_true rfl) ?_
    exact W.lret (v := lN (wd (ki (kz x9)))) hx hb hr (fun t9 ht hW => ⟨⟨lN (wd (ki (kz x9))), (), rfl, ⟨rfl, h7⟩, by show va_P D vwCl _ t9.heap; rw [ht]; exact hP⟩, hS.F ht⟩) hS.2.2 dX9_numberAt_27

set_option maxRecDepth 20000 in
theorem iX9_words_X9 : ∀ w ∈ wsX90, w ∈ wsX9_words := by decide +kernel
set_option maxHeartbeats 4000000 in
set_option maxRecDepth 100000 in
/-- words -/
theorem c_X9_words (l : Launch) (D : va_G) (xo : Nat) (gg : Nat) (gr : Nat) (ce : Nat) (tr : Nat) (sh : Nat) (ar : Nat) (ti : Nat) (n1 : Nat) (l1 : Nat) (s2 : Nat) (a2 : Nat) (s3 : Nat) (a3 : Nat) (n2 : Nat) (l2 : Nat) (m : Nat)  : Met l yX9_words wsX9_words { frames := 1, cells := 0, slots := 0, locals := 20 } (va_Pc [.ref xo] (qP D ([(xo, .inr (8, [.ref gg, .ref tr, .ref ti, .ref s2, .ref s3, .ref n2])), (s2, .inr (4, [.ref a2, .int (nI m)]))]) [])) (vp_Si (fun rv : Int32 => rv = nI m)) 0 0 (fun _ => False) := by
  refine Met.ofW (cc := cX9_words) (maxL := 1) (ret := (some .int)) (by decide) rfl ?_
  intro pM eM s mi9 argsM belowM methM cM sM B hml hv
  obtain ⟨rfl, hR, hK, hNw⟩ := hv
  have hx := B.exec
  have hb := B.bytes
  have hr := B.returns
  have hts := atoms_spec (ws := wsX9_words) B.pre
  have hown : s.vm.findClass RX9 = some mi9.cls := findClass_of_methodNamed B.named
  have hlocks := B.notSynchronized
  have hS : va_S (fun _ => False) s.heap s.heap [] := va_S.rf
  have hR : va_P D vwCl ([(xo, .inr (8, [.ref gg, .ref tr, .ref ti, .ref s2, .ref s3, .ref n2])), (s2, .inr (4, [.ref a2, .int (nI m)]))]) s.heap := hR
  have hl := lv_entry ([.ref xo]) (n := 1) (Nat.le_of_ble_eq_true rfl)
  rw [lg_entry_eq]
  generalize (lg_sl ([.ref xo]) ++ List.replicate (1 - (lg_sl ([.ref xo])).length) Slot.unset).toArray = ls at hl ⊢
  have hl : lv_has ls 1 [(0, .ref xo)] := hl
  refine lv_aload_n hx hb dX9_words_0 rfl (lv_at hl 0 rfl) ?_
  refine va_get (D := D) (own := RX9) (ref := "FuzzyFens") (ci := 8) (v := .ref s2) (C := RX9) (T := TX9) (N := 6) hx hb hts iX9_words_X9 hown hK hR 0 rfl rfl 3 (by decide) (hts (.fieldLink RX9 33 "FuzzyFens" "knownWords" "LFuzzyFens$Shelf;") (List.mem_of_getElem? (i := 1) rfl)) (fun _ h9 => h9) rfl dX9_words_1 ?_
  refine vp_callSi (W.runV (As := []) (rest := []) ⟨hx, hb, hml, hown, hts⟩ (c_X5_size (l := l) (D := D) (sh := s2) (ar := a2) (m := m) ) (cwV 0 hts gX9_words_X5_size rfl rfl rfl (by decide +kernel) ⟨Nat.le_of_ble_eq_true rfl, Nat.le_of_ble_eq_true rfl⟩) ⟨qP_blind, (va_recv hK hR (ci := 4) (q0 := 1) rfl rfl), (qP_of (hR.sub (ws' := [(s2, .inr (4, [.ref a2, .int (nI m)]))]) [1] rfl) (hK.sub (tys' := []) [] rfl) hNw)⟩ rfl rfl hl.1 rfl (lv_room (Nat.le_of_ble_eq_true rfl)) dX9_words_4 ⟨Nat.le_of_ble_eq_true rfl, Nat.le_of_ble_eq_true rfl⟩) (fun r_1 hr_1 => ?_)
  subst hr_1
  exact W.iret (v := nI m) hx hb hr (fun t9 ht _ => ⟨nI m, rfl, rfl, ht⟩) (fun _ h => absurd h List.not_mem_nil) dX9_words_7

set_option maxRecDepth 20000 in
theorem iX9_treeNodes_X9 : ∀ w ∈ wsX90, w ∈ wsX9_treeNodes := by decide +kernel
set_option maxHeartbeats 4000000 in
set_option maxRecDepth 100000 in
/-- treeNodes -/
theorem c_X9_treeNodes (l : Launch) (D : va_G) (xo : Nat) (gg : Nat) (gr : Nat) (ce : Nat) (tr : Nat) (sh : Nat) (ar : Nat) (ti : Nat) (n1 : Nat) (l1 : Nat) (s2 : Nat) (a2 : Nat) (s3 : Nat) (a3 : Nat) (n2 : Nat) (l2 : Nat) (n : Nat)  : Met l yX9_treeNodes wsX9_treeNodes { frames := 2, cells := 0, slots := 0, locals := 40 } (va_Pc [.ref xo] (qP D ([(xo, .inr (8, [.ref gg, .ref tr, .ref ti, .ref s2, .ref s3, .ref n2])), (tr, .inr (5, [.ref sh])), (sh, .inr (4, [.ref ar, .int (nI n)]))]) [])) (vp_Si (fun rv : Int32 => rv = nI n)) 0 0 (fun _ => False) := by
  refine Met.ofW (cc := cX9_treeNodes) (maxL := 1) (ret := (some .int)) (by decide) rfl ?_
  intro pM eM s mi9 argsM belowM methM cM sM B hml hv
  obtain ⟨rfl, hR, hK, hNw⟩ := hv
  have hx := B.exec
  have hb := B.bytes
  have hr := B.returns
  have hts := atoms_spec (ws := wsX9_treeNodes) B.pre
  have hown : s.vm.findClass RX9 = some mi9.cls := findClass_of_methodNamed B.named
  have hlocks := B.notSynchronized
  have hS : va_S (fun _ => False) s.heap s.heap [] := va_S.rf
  have hR : va_P D vwCl ([(xo, .inr (8, [.ref gg, .ref tr, .ref ti, .ref s2, .ref s3, .ref n2])), (tr, .inr (5, [.ref sh])), (sh, .inr (4, [.ref ar, .int (nI n)]))]) s.heap := hR
  have hl := lv_entry ([.ref xo]) (n := 1) (Nat.le_of_ble_eq_true rfl)
  rw [lg_entry_eq]
  generalize (lg_sl ([.ref xo]) ++ List.replicate (1 - (lg_sl ([.ref xo])).length) Slot.unset).toArray = ls at hl ⊢
  have hl : lv_has ls 1 [(0, .ref xo)] := hl
  refine lv_aload_n hx hb dX9_treeNodes_0 rfl (lv_at hl 0 rfl) ?_
  refine va_get (D := D) (own := RX9) (ref := "FuzzyFens") (ci := 8) (v := .ref tr) (C := RX9) (T := TX9) (N := 6) hx hb hts iX9_treeNodes_X9 hown hK hR 0 rfl rfl 1 (by decide) (hts (.fieldLink RX9 19 "FuzzyFens" "tree" "LFuzzyFens$Tree;") (List.mem_of_getElem? (i := 1) rfl)) (fun _ h9 => h9) rfl dX9_treeNodes_1 ?_
  refine vp_callSi (W.runV (As := []) (rest := []) ⟨hx, hb, hml, hown, hts⟩ (c_X6_size (l := l) (D := D) (tr := tr) (sh := sh) (ar := ar) (m := n) ) (cwV 0 hts gX9_treeNodes_X6_size rfl rfl rfl (by decide +kernel) ⟨Nat.le_of_ble_eq_true rfl, Nat.le_of_ble_eq_true rfl⟩) ⟨qP_blind, (va_recv hK hR (ci := 5) (q0 := 1) rfl rfl), (qP_of (hR.sub (ws' := [(tr, .inr (5, [.ref sh])), (sh, .inr (4, [.ref ar, .int (nI n)]))]) [1, 2] rfl) (hK.sub (tys' := []) [] rfl) hNw)⟩ rfl rfl hl.1 rfl (lv_room (Nat.le_of_ble_eq_true rfl)) dX9_treeNodes_4 ⟨Nat.le_of_ble_eq_true rfl, Nat.le_of_ble_eq_true rfl⟩) (fun r_1 hr_1 => ?_)
  subst hr_1
  exact W.iret (v := nI n) hx hb hr (fun t9 ht _ => ⟨nI n, rfl, rfl, ht⟩) (fun _ h => absurd h List.not_mem_nil) dX9_treeNodes_7

set_option maxRecDepth 20000 in
theorem iX9_trieNodes_X9 : ∀ w ∈ wsX90, w ∈ wsX9_trieNodes := by decide +kernel
set_option maxHeartbeats 4000000 in
set_option maxRecDepth 100000 in
/-- trieNodes -/
theorem c_X9_trieNodes (l : Launch) (D : va_G) (xo : Nat) (gg : Nat) (gr : Nat) (ce : Nat) (tr : Nat) (sh : Nat) (ar : Nat) (ti : Nat) (n1 : Nat) (l1 : Nat) (s2 : Nat) (a2 : Nat) (s3 : Nat) (a3 : Nat) (n2 : Nat) (l2 : Nat) (cS2 : ClassId) (fk : Nat → Option Nat) (m : Nat) (ki : Nat → Nat) (ea : Nat → Nat) (wa : Nat → Nat) (pf : Nat → Option Nat) (cn : Nat → Nat) (dp : Nat → Nat) (oc : Nat → Nat) (ic : Nat → Int32) (lf : Nat → Int32) (pt : Nat → Int32) (wd : Nat → Nat) (n : Nat) (hm : m ≤ 40) (hf : ∀ j, j < m → fk j = some (ea (ki j))) (hki : ∀ j, j < m → ki j < n) (hg : ∀ k, k < n → gw (wd k)) : Met l yX9_trieNodes wsX9_trieNodes { frames := 4, cells := 0, slots := 0, locals := 90 } (va_Pc [.ref xo] (qP D ([(xo, .inr (8, [.ref gg, .ref tr, .ref ti, .ref s2, .ref s3, .ref n2])), (s2, .inr (4, [.ref a2, .int (nI m)])), (a2, .inl (cS2, 40, .inr (.inr (.inr (.inr fk)))))] ++ (EW ea wa pf cn dp oc ic lf pt n ++ WW wa wd n)) [(cS2, .object "FuzzyFens$Entry")])) (vp_Si (fun rv : Int32 => rv = nI (tnd wd ki m))) 0 0 (fun _ => False) := by
  refine Met.ofW (cc := cX9_trieNodes) (maxL := 1) (ret := (some .int)) (by decide) rfl ?_
  intro pM eM s mi9 argsM belowM methM cM sM B hml hv
  obtain ⟨rfl, hR, hK, hNw⟩ := hv
  have hx := B.exec
  have hb := B.bytes
  have hr := B.returns
  have hts := atoms_spec (ws := wsX9_trieNodes) B.pre
  have hown : s.vm.findClass RX9 = some mi9.cls := findClass_of_methodNamed B.named
  have hlocks := B.notSynchronized
  have hS : va_S (fun _ => False) s.heap s.heap [] := va_S.rf
  have hR : va_P D vwCl ([(xo, .inr (8, [.ref gg, .ref tr, .ref ti, .ref s2, .ref s3, .ref n2])), (s2, .inr (4, [.ref a2, .int (nI m)])), (a2, .inl (cS2, 40, .inr (.inr (.inr (.inr fk)))))] ++ (EW ea wa pf cn dp oc ic lf pt n ++ WW wa wd n)) s.heap := hR
  have hl := lv_entry ([.ref xo]) (n := 1) (Nat.le_of_ble_eq_true rfl)
  rw [lg_entry_eq]
  generalize (lg_sl ([.ref xo]) ++ List.replicate (1 - (lg_sl ([.ref xo])).length) Slot.unset).toArray = ls at hl ⊢
  have hl : lv_has ls 1 [(0, .ref xo)] := hl
  refine lv_aload_n hx hb dX9_trieNodes_0 rfl (lv_at hl 0 rfl) ?_
  refine va_get (D := D) (own := RX9) (ref := "FuzzyFens") (ci := 8) (v := .ref s2) (C := RX9) (T := TX9) (N := 6) hx hb hts iX9_trieNodes_X9 hown hK hR 0 rfl rfl 3 (by decide) (hts (.fieldLink RX9 33 "FuzzyFens" "knownWords" "LFuzzyFens$Shelf;") (List.mem_of_getElem? (i := 1) rfl)) (fun _ h9 => h9) rfl dX9_trieNodes_1 ?_
  refine vp_callSi (W.runS (As := [.ref s2]) (rest := []) ⟨hx, hb, hml, hown, hts⟩ (c_X7_nodesOf (l := l) (D := D) (sh := s2) (ar := a2) (cS := cS2) (f := fk) (m := m) (ki := ki) (ea := ea) (wa := wa) (pf := pf) (cn := cn) (dp := dp) (oc := oc) (ic := ic) (lf := lf) (pt := pt) (wd := wd) (n := n) (hm := hm) (hf := hf) (hki := hki) (hg := hg)) (va_cwS 1 hts gX9_trieNodes_X7_nodesOf rfl rfl rfl (by decide +kernel) ⟨Nat.le_of_ble_eq_true rfl, Nat.le_of_ble_eq_true rfl⟩) ⟨qP_blind, (qP_of (va_P.app (hR.sub (ws' := [(s2, .inr (4, [.ref a2, .int (nI m)])), (a2, .inl (cS2, 40, .inr (.inr (.inr (.inr fk)))))]) [1, 2] rfl) (q_right hR)) (hK.sub (tys' := [(cS2, .object "FuzzyFens$Entry")]) [0] rfl) hNw)⟩ rfl rfl hl.1 rfl (lv_room (Nat.le_of_ble_eq_true rfl)) dX9_trieNodes_4 ⟨Nat.le_of_ble_eq_true rfl, Nat.le_of_ble_eq_true rfl⟩) (fun r_1 hr_1 => ?_)
  subst hr_1
  exact W.iret (v := nI (tnd wd ki m)) hx hb hr (fun t9 ht _ => ⟨nI (tnd wd ki m), rfl, rfl, ht⟩) (fun _ h => absurd h List.not_mem_nil) dX9_trieNodes_7

set_option maxRecDepth 20000 in
theorem iX9_count_X0 : ∀ w ∈ wsX00, w ∈ wsX9_count := by decide +kernel
set_option maxRecDepth 20000 in
theorem iX9_count_X9 : ∀ w ∈ wsX90, w ∈ wsX9_count := by decide +kernel
set_option maxHeartbeats 4000000 in
set_option maxRecDepth 100000 in
/-- count -/
theorem c_X9_count (l : Launch) (D : va_G) (sz : Nat) (xo : Nat) (gg : Nat) (gr : Nat) (ce : Nat) (tr : Nat) (sh : Nat) (ar : Nat) (ti : Nat) (n1 : Nat) (l1 : Nat) (s2 : Nat) (a2 : Nat) (s3 : Nat) (a3 : Nat) (n2 : Nat) (l2 : Nat) (cS : ClassId) (f : Nat → Option Nat) (ea : Nat → Nat) (wa : Nat → Nat) (pf : Nat → Option Nat) (cn : Nat → Nat) (dp : Nat → Nat) (oc : Nat → Nat) (ic : Nat → Int32) (lf : Nat → Int32) (pt : Nat → Int32) (wd : Nat → Nat) (n : Nat) (a : Nat) (hst : l.stackTraces = false) (hnd : (([] : List Nat) ++ ([xo, tr, sh, ar] ++ (rg ea n ++ rg wa n))).Nodup) (ha : a < 2 ^ 64) (hfe : ∀ j, j < n → f j = some (ea j)) (hn40 : n ≤ 40) (hg : ∀ k, k < n → gw (wd k)) : vx_Met l yX9_count wsX9_count { frames := 7, cells := 1, slots := 6, locals := 103 } (va_Pc [.ref xo, .long (lN a)] (qWx D sz ([(xo, .inr (8, [.ref gg, .ref tr, .ref ti, .ref s2, .ref s3, .ref n2])), (tr, .inr (5, [.ref sh])), (sh, .inr (4, [.ref ar, .int (nI n)])), (ar, .inl (cS, 40, .inr (.inr (.inr (.inr f)))))] ++ (EW ea wa pf cn dp oc ic lf pt n ++ WW wa wd n)) [] [(cS, .object "FuzzyFens$Entry")])) (va_Qi (fun (rv : Int32) (uv : Unit) => rv = nI (cof (ffi (fun k => decide (wd k = a)) n) oc) ∧ gw a) (fun (uv : Unit) (tv : State) => va_P D vwCl [] tv.heap) (va_A [] sz)) (vx_X (fun _ : Unit => True) (fun (E9 : String) (uv : Unit) (tv : State) => ((E9 = q_IA ∧ (¬ gw a))) ∧ va_P D vwCl ([]) tv.heap) (va_A [] sz)) 1 6 (va_A [] sz) := by
  refine vx_ofW (cc := cX9_count) (maxL := 4) (ret := (some .int)) (by decide) rfl ?_
  intro pM eM s mi9 argsM belowM methM cM sM B hml htab hv
  obtain ⟨rfl, hsz, hR0, hP, hK, hNw, hZ, hXt⟩ := hv
  have hx := B.exec
  have hb := B.bytes
  have hr := B.returns
  have hts := atoms_spec (ws := wsX9_count) B.pre
  have hown : s.vm.findClass RX9 = some mi9.cls := findClass_of_methodNamed B.named
  have hlocks := B.notSynchronized
  subst hsz
  have hna := q_na (RW := []) (RO := [(xo, .inr (8, [.ref gg, .ref tr, .ref ti, .ref s2, .ref s3, .ref n2])), (tr, .inr (5, [.ref sh])), (sh, .inr (4, [.ref ar, .int (nI n)])), (ar, .inl (cS, 40, .inr (.inr (.inr (.inr f)))))] ++ (EW ea wa pf cn dp oc ic lf pt n ++ WW wa wd n)) hnd rfl (by rw [List.map_append, List.map_append, EW_fst, WW_fst]; rfl) hR0
  have hD := q_D (RW := []) (sz := s.heap.size) hnd rfl
  have hnR : (([(xo, .inr (8, [.ref gg, .ref tr, .ref ti, .ref s2, .ref s3, .ref n2])), (tr, .inr (5, [.ref sh])), (sh, .inr (4, [.ref ar, .int (nI n)])), (ar, .inl (cS, 40, .inr (.inr (.inr (.inr f)))))] ++ (EW ea wa pf cn dp oc ic lf pt n ++ WW wa wd n) : va_W).map (·.1)).Nodup := by rw [show ([(xo, .inr (8, [.ref gg, .ref tr, .ref ti, .ref s2, .ref s3, .ref n2])), (tr, .inr (5, [.ref sh])), (sh, .inr (4, [.ref ar, .int (nI n)])), (ar, .inl (cS, 40, .inr (.inr (.inr (.inr f)))))] ++ (EW ea wa pf cn dp oc ic lf pt n ++ WW wa wd n) : va_W).map (·.1) = ([xo, tr, sh, ar] ++ (rg ea n ++ rg wa n)) from (by rw [List.map_append, List.map_append, EW_fst, WW_fst]; rfl)]; exact (List.nodup_append.mp hnd).2.1
  have hA : ∀ q : Nat, s.heap.size ≤ q → va_A [] s.heap.size q := fun q h => Or.inr h
  generalize hAe : va_A [] s.heap.size = A at hna hD hA hZ ⊢
  have hS : va_S A s.heap s.heap [] := va_S.rf
  have hR := hR0
  have hP : va_P D vwCl [] s.heap := hP
  obtain ⟨⟨tR, hZR, hTR⟩, ⟨tP, hZP, hTP⟩, hUS, hSS⟩ := id hZ
  have hl := lv_entry ([.ref xo, .long (lN a)]) (n := 4) (Nat.le_of_ble_eq_true rfl)
  rw [lg_entry_eq]
  generalize (lg_sl ([.ref xo, .long (lN a)]) ++ List.replicate (4 - (lg_sl ([.ref xo, .long (lN a)])).length) Slot.unset).toArray = ls at hl ⊢
  have hl : lv_has ls 4 [(0, .ref xo), (1, .long (lN a))] := hl
  refine lv_aload_n hx hb dX9_count_0 rfl (lv_at hl 0 rfl) ?_
  refine va_get (D := D) (own := RX9) (ref := "FuzzyFens") (ci := 8) (v := .ref tr) (C := RX9) (T := TX9) (N := 6) hx hb hts iX9_count_X9 hown hK hR 0 rfl rfl 1 (by decide) (hts (.fieldLink RX9 19 "FuzzyFens" "tree" "LFuzzyFens$Tree;") (List.mem_of_getElem? (i := 1) rfl)) (fun _ h9 => h9) rfl dX9_count_1 ?_
  refine lv_lload_n hx hb dX9_count_4 rfl (lv_at hl 1 rfl) ?_
  have hF := va_free (wc := []) hD hS hA [] rfl
  refine vx_callq (vx_runS (As := [.long (lN a)]) (rest := [.ref tr]) ⟨hx, hb, hml, hown, hts⟩ (c_X9_wordOf (l := l) (D := D) (a := a) (sz := s.heap.size) (hnd := (q_nds (q_ndl hnd) [] rfl rfl)) (hst := hst) (ha := ha)) (va_cwS 1 hts gX9_count_X9_wordOf rfl rfl rfl (by decide +kernel) ⟨Nat.le_of_ble_eq_true rfl, Nat.le_of_ble_eq_true rfl⟩) ⟨qWx_blind, (qWx_of (q_Pof (fun _ h => absurd h List.not_mem_nil)) (q_Pof (fun _ h => absurd h List.not_mem_nil)) (hK.sub (tys' := []) [] rfl) hNw (qZ_at hZ hS (fun q h => hF q h)) hXt)⟩ rfl rfl hl.1 rfl (lv_room (Nat.le_of_ble_eq_true rfl)) dX9_count_5 ⟨Nat.le_of_ble_eq_true rfl, Nat.le_of_ble_eq_true rfl⟩) hS (fun q _ h => hF q h) hF (fun q _ h => hF q h) (fun E9 ce9 q9 u9 t9 H9 locs9 ht9 hvm9 hpx9 hBX9 hz9 hk9 hS9 hc9 hv9 hcl9 => ?_) (fun r_1 u_5 t_4 H_2 locs_3 ht hvm hr_1 hB hz1 hk1 hS => ?_)
  · obtain ⟨hE9, hW9⟩ := hBX9
    exact vx_out (fun x9 h9 => (htab x9 h9).elim) hlocks hc9 hv9 hcl9 (fun t8 ht8 hvm8 => ⟨(), trivial, ⟨hE9, by show va_P D vwCl _ t8.heap; rw [ht8]; exact (q_keepP hP hk9 q_A0)⟩, ⟨by rw [ht8]; exact hS9.1, fun q8 a8 b8 => by rw [ht8]; exact hS9.2.1 q8 a8 b8⟩⟩) hS9.2.2 (Nat.le_of_ble_eq_true rfl) (Nat.le_of_ble_eq_true rfl)
  skip
  obtain ⟨w9_6, rfl⟩ : ∃ z, z = u_5 := ⟨_, rfl⟩
  obtain ⟨hB1, hB2, hB3⟩ := hB
  replace hB1 : va_P D vwCl ([] ++ [(w9_6, .inr (7, [.long (lN a), .int (nI (wl a)), .long (lN (al a))]))]) H_2 := by rw [← ht]; exact hB1
  obtain ⟨hP, hD⟩ := q_joinN (wc := []) (w1 := []) (wn := [(w9_6, .inr (7, [.long (lN a), .int (nI (wl a)), .long (lN (al a))]))]) (ws' := []) [] hP hD rfl rfl hk1 hF hB1 hB2 rfl
  have hK : va_K D vwCl [(cS, .object "FuzzyFens$Entry")] s := hK.app (va_K.moved hvm.symm hB3)
  have hP : va_P D vwCl [(w9_6, .inr (7, [.long (lN a), .int (nI (wl a)), .long (lN (al a))]))] H_2 := hP
  have hD : va_D A [(w9_6, .inr (7, [.long (lN a), .int (nI (wl a)), .long (lN (al a))]))] := hD
  have hR := q_ro hR0 hna hS
  obtain ⟨rfl, hgw⟩ := hr_1
  refine q_cvv (show va_rf (some w9_6) = .ref w9_6 from rfl) ?_
  refine va_csq (W.runV (As := [.ref w9_6]) (rest := []) ⟨hx, hb, hml, hown, hts⟩ (c_X6_find (l := l) (D := D) (tr := tr) (sh := sh) (ar := ar) (cS := cS) (f := f) (w0 := w9_6) (v := a) (ea := ea) (wa := wa) (pf := pf) (cn := cn) (dp := dp) (oc := oc) (ic := ic) (lf := lf) (pt := pt) (wd := wd) (n := n) (hv := by have := gw_lt hgw; omega) (hg := hg) (hfe := hfe) (hn40 := hn40)) (cwV 1 hts gX9_count_X6_find rfl rfl rfl (by decide +kernel) ⟨Nat.le_of_ble_eq_true rfl, Nat.le_of_ble_eq_true rfl⟩) ⟨qP_blind, (va_recv hK hR (ci := 5) (q0 := 1) rfl rfl), (qP_of (va_P.app (show va_P D vwCl [(tr, .inr (5, [.ref sh])), (sh, .inr (4, [.ref ar, .int (nI n)])), (ar, .inl (cS, 40, .inr (.inr (.inr (.inr f))))), (w9_6, .inr (7, [.long (lN a), .int (nI (wl a)), .long (lN (al a))]))] _ from (va_P.app (hR.sub (ws' := [(tr, .inr (5, [.ref sh]))]) [1] rfl) (va_P.app (hR.sub (ws' := [(sh, .inr (4, [.ref ar, .int (nI n)]))]) [2] rfl) (va_P.app (hR.sub (ws' := [(ar, .inl (cS, 40, .inr (.inr (.inr (.inr f)))))]) [3] rfl) (hP.sub (ws' := [(w9_6, .inr (7, [.long (lN a), .int (nI (wl a)), .long (lN (al a))]))]) [0] rfl))))) (q_right hR)) (hK.sub (tys' := [(cS, .object "FuzzyFens$Entry")]) [0] rfl) hNw)⟩ rfl rfl hl.1 rfl (lv_room (Nat.le_of_ble_eq_true rfl)) dX9_count_8 ⟨Nat.le_of_ble_eq_true rfl, Nat.le_of_ble_eq_true rfl⟩) (fun r_7 hr_7 => ?_)
  subst hr_7
  refine q_cvv (show va_rf ((ffi (fun k => decide (wd k = a)) n).map ea) = va_rf (Option.map ea (ffi (fun k => decide (wd k = a)) n)) from rfl) ?_
  refine q_astore_n (lv' := [(3, va_rf (Option.map ea (ffi (fun k => decide (wd k = a)) n))), (0, .ref xo), (1, .long (lN a))]) hx hb dX9_count_11 rfl hl (by decide) rfl (fun ls hl => ?_)
  refine q_opt (o := (ffi (fun k => decide (wd k = a)) n)) (fun e_12 => ?_) (fun i7 e_12 => ?_)
  · skip
    have hl : lv_has ls 4 [(3, .null), (0, .ref xo), (1, .long (lN a))] := by rw [e_12] at hl; exact hl
    refine lv_aload_nN hx hb dX9_count_12 rfl (lv_at hl 0 rfl) ?_
    refine lv_ifnonnullN hx hb dX9_count_13 ?_
    refine lv_iconst (v := nI 0) hx hb dX9_count_16 (by decide) ?_
    refine lv_goto (tgt := 24) hx hb dX9_count_17 (by decide) ?_
    refine vx_ret ?_
    refine W.widen (k := 1) (n := 6) (Nat.le_of_ble_eq_true rfl) (Nat.le_of_ble_eq_true rfl) ?_
    exact W.iret (v := nI 0) hx hb hr (fun t9 ht hW => ⟨⟨nI 0, (), rfl, ⟨(by rw [e_12]; rfl), hgw⟩, by show va_P D vwCl _ t9.heap; rw [ht]; exact (va_P.sub (ws' := []) hP [] rfl)⟩, hS.F ht⟩) hS.2.2 dX9_count_24
  · skip
    have hi7 := (ffi_some e_12).1
    have hl : lv_has ls 4 [(3, .ref (ea i7)), (0, .ref xo), (1, .long (lN a))] := by rw [e_12] at hl; exact hl
    refine lv_aload_n hx hb dX9_count_12 rfl (lv_at hl 0 rfl) ?_
    refine lv_ifnonnull (tgt := 20) hx hb dX9_count_13 (by decide) ?_
    refine lv_aload_n hx hb dX9_count_20 rfl (lv_at hl 0 rfl) ?_
    refine va_getN (host := "FuzzyFens") (D := D) (own := RX9) (ref := "FuzzyFens$Entry") (ci := 0) (v := .int (nI (oc i7))) (C := RX0) (T := TX0) (N := 8) hx hb hts iX9_count_X0 hown hK (E_at hR i7 (by omega)) 0 rfl rfl 4 (by decide) (va_Nw.use rfl (hNw.1 ("FuzzyFens", 72, "FuzzyFens$Entry", "occurrences", "I") (List.mem_of_getElem? (i := 13) rfl))) (fun _ h9 => h9) rfl dX9_count_21 ?_
    refine vx_ret ?_
    refine W.widen (k := 1) (n := 6) (Nat.le_of_ble_eq_true rfl) (Nat.le_of_ble_eq_true rfl) ?_
    exact W.iret (v := nI (oc i7)) hx hb hr (fun t9 ht hW => ⟨⟨nI (oc i7), (), rfl, ⟨(by rw [e_12]; rfl), hgw⟩, by show va_P D vwCl _ t9.heap; rw [ht]; exact (va_P.sub (ws' := []) hP [] rfl)⟩, hS.F ht⟩) hS.2.2 dX9_count_24

set_option maxRecDepth 20000 in
theorem iX9_treeDepth_X0 : ∀ w ∈ wsX00, w ∈ wsX9_treeDepth := by decide +kernel
set_option maxRecDepth 20000 in
theorem iX9_treeDepth_X9 : ∀ w ∈ wsX90, w ∈ wsX9_treeDepth := by decide +kernel
set_option maxHeartbeats 4000000 in
set_option maxRecDepth 100000 in
/-- treeDepth -/
theorem c_X9_treeDepth (l : Launch) (D : va_G) (sz : Nat) (xo : Nat) (gg : Nat) (gr : Nat) (ce : Nat) (tr : Nat) (sh : Nat) (ar : Nat) (ti : Nat) (n1 : Nat) (l1 : Nat) (s2 : Nat) (a2 : Nat) (s3 : Nat) (a3 : Nat) (n2 : Nat) (l2 : Nat) (cS : ClassId) (f : Nat → Option Nat) (ea : Nat → Nat) (wa : Nat → Nat) (pf : Nat → Option Nat) (cn : Nat → Nat) (dp : Nat → Nat) (oc : Nat → Nat) (ic : Nat → Int32) (lf : Nat → Int32) (pt : Nat → Int32) (wd : Nat → Nat) (n : Nat) (a : Nat) (hst : l.stackTraces = false) (hnd : (([] : List Nat) ++ ([xo, tr, sh, ar] ++ (rg ea n ++ rg wa n))).Nodup) (ha : a < 2 ^ 64) (hfe : ∀ j, j < n → f j = some (ea j)) (hn40 : n ≤ 40) (hg : ∀ k, k < n → gw (wd k)) : vx_Met l yX9_treeDepth wsX9_treeDepth { frames := 7, cells := 1, slots := 6, locals := 103 } (va_Pc [.ref xo, .long (lN a)] (qWx D sz ([(xo, .inr (8, [.ref gg, .ref tr, .ref ti, .ref s2, .ref s3, .ref n2])), (tr, .inr (5, [.ref sh])), (sh, .inr (4, [.ref ar, .int (nI n)])), (ar, .inl (cS, 40, .inr (.inr (.inr (.inr f)))))] ++ (EW ea wa pf cn dp oc ic lf pt n ++ WW wa wd n)) [] [(cS, .object "FuzzyFens$Entry")])) (va_Qi (fun (rv : Int32) (uv : Unit) => rv = dpv dp (ffi (fun k => decide (wd k = a)) n) ∧ gw a) (fun (uv : Unit) (tv : State) => va_P D vwCl [] tv.heap) (va_A [] sz)) (vx_X (fun _ : Unit => True) (fun (E9 : String) (uv : Unit) (tv : State) => ((E9 = q_IA ∧ (¬ gw a))) ∧ va_P D vwCl ([]) tv.heap) (va_A [] sz)) 1 6 (va_A [] sz) := by
  refine vx_ofW (cc := cX9_treeDepth) (maxL := 4) (ret := (some .int)) (by decide) rfl ?_
  intro pM eM s mi9 argsM belowM methM cM sM B hml htab hv
  obtain ⟨rfl, hsz, hR0, hP, hK, hNw, hZ, hXt⟩ := hv
  have hx := B.exec
  have hb := B.bytes
  have hr := B.returns
  have hts := atoms_spec (ws := wsX9_treeDepth) B.pre
  have hown : s.vm.findClass RX9 = some mi9.cls := findClass_of_methodNamed B.named
  have hlocks := B.notSynchronized
  subst hsz
  have hna := q_na (RW := []) (RO := [(xo, .inr (8, [.ref gg, .ref tr, .ref ti, .ref s2, .ref s3, .ref n2])), (tr, .inr (5, [.ref sh])), (sh, .inr (4, [.ref ar, .int (nI n)])), (ar, .inl (cS, 40, .inr (.inr (.inr (.inr f)))))] ++ (EW ea wa pf cn dp oc ic lf pt n ++ WW wa wd n)) hnd rfl (by rw [List.map_append, List.map_append, EW_fst, WW_fst]; rfl) hR0
  have hD := q_D (RW := []) (sz := s.heap.size) hnd rfl
  have hnR : (([(xo, .inr (8, [.ref gg, .ref tr, .ref ti, .ref s2, .ref s3, .ref n2])), (tr, .inr (5, [.ref sh])), (sh, .inr (4, [.ref ar, .int (nI n)])), (ar, .inl (cS, 40, .inr (.inr (.inr (.inr f)))))] ++ (EW ea wa pf cn dp oc ic lf pt n ++ WW wa wd n) : va_W).map (·.1)).Nodup := by rw [show ([(xo, .inr (8, [.ref gg, .ref tr, .ref ti, .ref s2, .ref s3, .ref n2])), (tr, .inr (5, [.ref sh])), (sh, .inr (4, [.ref ar, .int (nI n)])), (ar, .inl (cS, 40, .inr (.inr (.inr (.inr f)))))] ++ (EW ea wa pf cn dp oc ic lf pt n ++ WW wa wd n) : va_W).map (·.1) = ([xo, tr, sh, ar] ++ (rg ea n ++ rg wa n)) from (by rw [List.map_append, List.map_append, EW_fst, WW_fst]; rfl)]; exact (List.nodup_append.mp hnd).2.1
  have hA : ∀ q : Nat, s.heap.size ≤ q → va_A [] s.heap.size q := fun q h => Or.inr h
  generalize hAe : va_A [] s.heap.size = A at hna hD hA hZ ⊢
  have hS : va_S A s.heap s.heap [] := va_S.rf
  have hR := hR0
  have hP : va_P D vwCl [] s.heap := hP
  obtain ⟨⟨tR, hZR, hTR⟩, ⟨tP, hZP, hTP⟩, hUS, hSS⟩ := id hZ
  have hl := lv_entry ([.ref xo, .long (lN a)]) (n := 4) (Nat.le_of_ble_eq_true rfl)
  rw [lg_entry_eq]
  generalize (lg_sl ([.ref xo, .long (lN a)]) ++ List.replicate (4 - (lg_sl ([.ref xo, .long (lN a)])).length) Slot.unset).toArray = ls at hl ⊢
  have hl : lv_has ls 4 [(0, .ref xo), (1, .long (lN a))] := hl
  refine lv_aload_n hx hb dX9_treeDepth_0 rfl (lv_at hl 0 rfl) ?_
  refine va_get (D := D) (own := RX9) (ref := "FuzzyFens") (ci := 8) (v := .ref tr) (C := RX9) (T := TX9) (N := 6) hx hb hts iX9_treeDepth_X9 hown hK hR 0 rfl rfl 1 (by decide) (hts (.fieldLink RX9 19 "FuzzyFens" "tree" "LFuzzyFens$Tree;") (List.mem_of_getElem? (i := 1) rfl)) (fun _ h9 => h9) rfl dX9_treeDepth_1 ?_
  refine lv_lload_n hx hb dX9_treeDepth_4 rfl (lv_at hl 1 rfl) ?_
  have hF := va_free (wc := []) hD hS hA [] rfl
  refine vx_callq (vx_runS (As := [.long (lN a)]) (rest := [.ref tr]) ⟨hx, hb, hml, hown, hts⟩ (c_X9_wordOf (l := l) (D := D) (a := a) (sz := s.heap.size) (hnd := (q_nds (q_ndl hnd) [] rfl rfl)) (hst := hst) (ha := ha)) (va_cwS 1 hts gX9_treeDepth_X9_wordOf rfl rfl rfl (by decide +kernel) ⟨Nat.le_of_ble_eq_true rfl, Nat.le_of_ble_eq_true rfl⟩) ⟨qWx_blind, (qWx_of (q_Pof (fun _ h => absurd h List.not_mem_nil)) (q_Pof (fun _ h => absurd h List.not_mem_nil)) (hK.sub (tys' := []) [] rfl) hNw (qZ_at hZ hS (fun q h => hF q h)) hXt)⟩ rfl rfl hl.1 rfl (lv_room (Nat.le_of_ble_eq_true rfl)) dX9_treeDepth_5 ⟨Nat.le_of_ble_eq_true rfl, Nat.le_of_ble_eq_true rfl⟩) hS (fun q _ h => hF q h) hF (fun q _ h => hF q h) (fun E9 ce9 q9 u9 t9 H9 locs9 ht9 hvm9 hpx9 hBX9 hz9 hk9 hS9 hc9 hv9 hcl9 => ?_) (fun r_1 u_5 t_4 H_2 locs_3 ht hvm hr_1 hB hz1 hk1 hS => ?_)
  · obtain ⟨hE9, hW9⟩ := hBX9
    exact vx_out (fun x9 h9 => (htab x9 h9).elim) hlocks hc9 hv9 hcl9 (fun t8 ht8 hvm8 => ⟨(), trivial, ⟨hE9, by show va_P D vwCl _ t8.heap; rw [ht8]; exact (q_keepP hP hk9 q_A0)⟩, ⟨by rw [ht8]; exact hS9.1, fun q8 a8 b8 => by rw [ht8]; exact hS9.2.1 q8 a8 b8⟩⟩) hS9.2.2 (Nat.le_of_ble_eq_true rfl) (Nat.le_of_ble_eq_true rfl)
  skip
  obtain ⟨w9_6, rfl⟩ : ∃ z, z = u_5 := ⟨_, rfl⟩
  obtain ⟨hB1, hB2, hB3⟩ := hB
  replace hB1 : va_P D vwCl ([] ++ [(w9_6, .inr (7, [.long (lN a), .int (nI (wl a)), .long (lN (al a))]))]) H_2 := by rw [← ht]; exact hB1
  obtain ⟨hP, hD⟩ := q_joinN (wc := []) (w1 := []) (wn := [(w9_6, .inr (7, [.long (lN a), .int (nI (wl a)), .long (lN (al a))]))]) (ws' := []) [] hP hD rfl rfl hk1 hF hB1 hB2 rfl
  have hK : va_K D vwCl [(cS, .object "FuzzyFens$Entry")] s := hK.app (va_K.moved hvm.symm hB3)
  have hP : va_P D vwCl [(w9_6, .inr (7, [.long (lN a), .int (nI (wl a)), .long (lN (al a))]))] H_2 := hP
  have hD : va_D A [(w9_6, .inr (7, [.long (lN a), .int (nI (wl a)), .long (lN (al a))]))] := hD
  have hR := q_ro hR0 hna hS
  obtain ⟨rfl, hgw⟩ := hr_1
  refine q_cvv (show va_rf (some w9_6) = .ref w9_6 from rfl) ?_
  refine va_csq (W.runV (As := [.ref w9_6]) (rest := []) ⟨hx, hb, hml, hown, hts⟩ (c_X6_find (l := l) (D := D) (tr := tr) (sh := sh) (ar := ar) (cS := cS) (f := f) (w0 := w9_6) (v := a) (ea := ea) (wa := wa) (pf := pf) (cn := cn) (dp := dp) (oc := oc) (ic := ic) (lf := lf) (pt := pt) (wd := wd) (n := n) (hv := by have := gw_lt hgw; omega) (hg := hg) (hfe := hfe) (hn40 := hn40)) (cwV 1 hts gX9_treeDepth_X6_find rfl rfl rfl (by decide +kernel) ⟨Nat.le_of_ble_eq_true rfl, Nat.le_of_ble_eq_true rfl⟩) ⟨qP_blind, (va_recv hK hR (ci := 5) (q0 := 1) rfl rfl), (qP_of (va_P.app (show va_P D vwCl [(tr, .inr (5, [.ref sh])), (sh, .inr (4, [.ref ar, .int (nI n)])), (ar, .inl (cS, 40, .inr (.inr (.inr (.inr f))))), (w9_6, .inr (7, [.long (lN a), .int (nI (wl a)), .long (lN (al a))]))] _ from (va_P.app (hR.sub (ws' := [(tr, .inr (5, [.ref sh]))]) [1] rfl) (va_P.app (hR.sub (ws' := [(sh, .inr (4, [.ref ar, .int (nI n)]))]) [2] rfl) (va_P.app (hR.sub (ws' := [(ar, .inl (cS, 40, .inr (.inr (.inr (.inr f)))))]) [3] rfl) (hP.sub (ws' := [(w9_6, .inr (7, [.long (lN a), .int (nI (wl a)), .long (lN (al a))]))]) [0] rfl))))) (q_right hR)) (hK.sub (tys' := [(cS, .object "FuzzyFens$Entry")]) [0] rfl) hNw)⟩ rfl rfl hl.1 rfl (lv_room (Nat.le_of_ble_eq_true rfl)) dX9_treeDepth_8 ⟨Nat.le_of_ble_eq_true rfl, Nat.le_of_ble_eq_true rfl⟩) (fun r_7 hr_7 => ?_)
  subst hr_7
  refine q_cvv (show va_rf ((ffi (fun k => decide (wd k = a)) n).map ea) = va_rf (Option.map ea (ffi (fun k => decide (wd k = a)) n)) from rfl) ?_
  refine q_astore_n (lv' := [(3, va_rf (Option.map ea (ffi (fun k => decide (wd k = a)) n))), (0, .ref xo), (1, .long (lN a))]) hx hb dX9_treeDepth_11 rfl hl (by decide) rfl (fun ls hl => ?_)
  refine q_opt (o := (ffi (fun k => decide (wd k = a)) n)) (fun e_12 => ?_) (fun i7 e_12 => ?_)
  · skip
    have hl : lv_has ls 4 [(3, .null), (0, .ref xo), (1, .long (lN a))] := by rw [e_12] at hl; exact hl
    refine lv_aload_nN hx hb dX9_treeDepth_12 rfl (lv_at hl 0 rfl) ?_
    refine lv_ifnonnullN hx hb dX9_treeDepth_13 ?_
    refine lv_iconst (v := (-1)) hx hb dX9_treeDepth_16 (by decide) ?_
    refine lv_goto (tgt := 24) hx hb dX9_treeDepth_17 (by decide) ?_
    refine vx_ret ?_
    refine W.widen (k := 1) (n := 6) (Nat.le_of_ble_eq_true rfl) (Nat.le_of_ble_eq_true rfl) ?_
    exact W.iret (v := (-1)) hx hb hr (fun t9 ht hW => ⟨⟨(-1), (), rfl, ⟨(by rw [e_12]; rfl), hgw⟩, by show va_P D vwCl _ t9.heap; rw [ht]; exact (va_P.sub (ws' := []) hP [] rfl)⟩, hS.F ht⟩) hS.2.2 dX9_treeDepth_24
  · skip
    have hi7 := (ffi_some e_12).1
    have hl : lv_has ls 4 [(3, .ref (ea i7)), (0, .ref xo), (1, .long (lN a))] := by rw [e_12] at hl; exact hl
    refine lv_aload_n hx hb dX9_treeDepth_12 rfl (lv_at hl 0 rfl) ?_
    refine lv_ifnonnull (tgt := 20) hx hb dX9_treeDepth_13 (by decide) ?_
    refine lv_aload_n hx hb dX9_treeDepth_20 rfl (lv_at hl 0 rfl) ?_
    refine va_getN (host := "FuzzyFens") (D := D) (own := RX9) (ref := "FuzzyFens$Entry") (ci := 0) (v := .int (nI (dp i7))) (C := RX0) (T := TX0) (N := 8) hx hb hts iX9_treeDepth_X0 hown hK (E_at hR i7 (by omega)) 0 rfl rfl 3 (by decide) (va_Nw.use rfl (hNw.1 ("FuzzyFens", 145, "FuzzyFens$Entry", "depth", "I") (List.mem_of_getElem? (i := 12) rfl))) (fun _ h9 => h9) rfl dX9_treeDepth_21 ?_
    refine vx_ret ?_
    refine W.widen (k := 1) (n := 6) (Nat.le_of_ble_eq_true rfl) (Nat.le_of_ble_eq_true rfl) ?_
    exact W.iret (v := nI (dp i7)) hx hb hr (fun t9 ht hW => ⟨⟨nI (dp i7), (), rfl, ⟨(by rw [e_12]; rfl), hgw⟩, by show va_P D vwCl _ t9.heap; rw [ht]; exact (va_P.sub (ws' := []) hP [] rfl)⟩, hS.F ht⟩) hS.2.2 dX9_treeDepth_24

set_option maxRecDepth 20000 in
theorem iX9_treeParent_X0 : ∀ w ∈ wsX00, w ∈ wsX9_treeParent := by decide +kernel
set_option maxRecDepth 20000 in
theorem iX9_treeParent_X8 : ∀ w ∈ wsX80, w ∈ wsX9_treeParent := by decide +kernel
set_option maxRecDepth 20000 in
theorem iX9_treeParent_X9 : ∀ w ∈ wsX90, w ∈ wsX9_treeParent := by decide +kernel
set_option maxHeartbeats 4000000 in
set_option maxRecDepth 100000 in
/-- treeParent -/
theorem c_X9_treeParent (l : Launch) (D : va_G) (sz : Nat) (xo : Nat) (gg : Nat) (gr : Nat) (ce : Nat) (tr : Nat) (sh : Nat) (ar : Nat) (ti : Nat) (n1 : Nat) (l1 : Nat) (s2 : Nat) (a2 : Nat) (s3 : Nat) (a3 : Nat) (n2 : Nat) (l2 : Nat) (cS : ClassId) (f : Nat → Option Nat) (ea : Nat → Nat) (wa : Nat → Nat) (pf : Nat → Option Nat) (cn : Nat → Nat) (dp : Nat → Nat) (oc : Nat → Nat) (ic : Nat → Int32) (lf : Nat → Int32) (pt : Nat → Int32) (wd : Nat → Nat) (n : Nat) (pi : Nat → Option Nat) (a : Nat) (hst : l.stackTraces = false) (hnd : (([] : List Nat) ++ ([xo, tr, sh, ar] ++ (rg ea n ++ rg wa n))).Nodup) (ha : a < 2 ^ 64) (hfe : ∀ j, j < n → f j = some (ea j)) (hn40 : n ≤ 40) (hg : ∀ k, k < n → gw (wd k)) (hpi : ∀ k, k < n → pf k = (pi k).map ea) (hpn : ∀ k i, k < n → pi k = some i → i < k) : vx_Met l yX9_treeParent wsX9_treeParent { frames := 7, cells := 1, slots := 6, locals := 103 } (va_Pc [.ref xo, .long (lN a)] (qWx D sz ([(xo, .inr (8, [.ref gg, .ref tr, .ref ti, .ref s2, .ref s3, .ref n2])), (tr, .inr (5, [.ref sh])), (sh, .inr (4, [.ref ar, .int (nI n)])), (ar, .inl (cS, 40, .inr (.inr (.inr (.inr f)))))] ++ (EW ea wa pf cn dp oc ic lf pt n ++ WW wa wd n)) [] [(cS, .object "FuzzyFens$Entry")])) (va_Ql (fun (rv : Int64) (uv : Unit) => rv = lnn wd ((ffi (fun k => decide (wd k = a)) n).bind pi) ∧ gw a) (fun (uv : Unit) (tv : State) => va_P D vwCl [] tv.heap) (va_A [] sz)) (vx_X (fun _ : Unit => True) (fun (E9 : String) (uv : Unit) (tv : State) => ((E9 = q_IA ∧ (¬ gw a))) ∧ va_P D vwCl ([]) tv.heap) (va_A [] sz)) 1 6 (va_A [] sz) := by
  refine vx_ofW (cc := cX9_treeParent) (maxL := 4) (ret := (some .long)) (by decide) rfl ?_
  intro pM eM s mi9 argsM belowM methM cM sM B hml htab hv
  obtain ⟨rfl, hsz, hR0, hP, hK, hNw, hZ, hXt⟩ := hv
  have hx := B.exec
  have hb := B.bytes
  have hr := B.returns
  have hts := atoms_spec (ws := wsX9_treeParent) B.pre
  have hown : s.vm.findClass RX9 = some mi9.cls := findClass_of_methodNamed B.named
  have hlocks := B.notSynchronized
  subst hsz
  have hna := q_na (RW := []) (RO := [(xo, .inr (8, [.ref gg, .ref tr, .ref ti, .ref s2, .ref s3, .ref n2])), (tr, .inr (5, [.ref sh])), (sh, .inr (4, [.ref ar, .int (nI n)])), (ar, .inl (cS, 40, .inr (.inr (.inr (.inr f)))))] ++ (EW ea wa pf cn dp oc ic lf pt n ++ WW wa wd n)) hnd rfl (by rw [List.map_append, List.map_append, EW_fst, WW_fst]; rfl) hR0
  have hD := q_D (RW := []) (sz := s.heap.size) hnd rfl
  have hnR : (([(xo, .inr (8, [.ref gg, .ref tr, .ref ti, .ref s2, .ref s3, .ref n2])), (tr, .inr (5, [.ref sh])), (sh, .inr (4, [.ref ar, .int (nI n)])), (ar, .inl (cS, 40, .inr (.inr (.inr (.inr f)))))] ++ (EW ea wa pf cn dp oc ic lf pt n ++ WW wa wd n) : va_W).map (·.1)).Nodup := by rw [show ([(xo, .inr (8, [.ref gg, .ref tr, .ref ti, .ref s2, .ref s3, .ref n2])), (tr, .inr (5, [.ref sh])), (sh, .inr (4, [.ref ar, .int (nI n)])), (ar, .inl (cS, 40, .inr (.inr (.inr (.inr f)))))] ++ (EW ea wa pf cn dp oc ic lf pt n ++ WW wa wd n) : va_W).map (·.1) = ([xo, tr, sh, ar] ++ (rg ea n ++ rg wa n)) from (by rw [List.map_append, List.map_append, EW_fst, WW_fst]; rfl)]; exact (List.nodup_append.mp hnd).2.1
  have hA : ∀ q : Nat, s.heap.size ≤ q → va_A [] s.heap.size q := fun q h => Or.inr h
  generalize hAe : va_A [] s.heap.size = A at hna hD hA hZ ⊢
  have hS : va_S A s.heap s.heap [] := va_S.rf
  have hR := hR0
  have hP : va_P D vwCl [] s.heap := hP
  obtain ⟨⟨tR, hZR, hTR⟩, ⟨tP, hZP, hTP⟩, hUS, hSS⟩ := id hZ
  have hl := lv_entry ([.ref xo, .long (lN a)]) (n := 4) (Nat.le_of_ble_eq_true rfl)
  rw [lg_entry_eq]
  generalize (lg_sl ([.ref xo, .long (lN a)]) ++ List.replicate (4 - (lg_sl ([.ref xo, .long (lN a)])).length) Slot.unset).toArray = ls at hl ⊢
  have hl : lv_has ls 4 [(0, .ref xo), (1, .long (lN a))] := hl
  refine lv_aload_n hx hb dX9_treeParent_0 rfl (lv_at hl 0 rfl) ?_
  refine va_get (D := D) (own := RX9) (ref := "FuzzyFens") (ci := 8) (v := .ref tr) (C := RX9) (T := TX9) (N := 6) hx hb hts iX9_treeParent_X9 hown hK hR 0 rfl rfl 1 (by decide) (hts (.fieldLink RX9 19 "FuzzyFens" "tree" "LFuzzyFens$Tree;") (List.mem_of_getElem? (i := 1) rfl)) (fun _ h9 => h9) rfl dX9_treeParent_1 ?_
  refine lv_lload_n hx hb dX9_treeParent_4 rfl (lv_at hl 1 rfl) ?_
  have hF := va_free (wc := []) hD hS hA [] rfl
  refine vx_callq (vx_runS (As := [.long (lN a)]) (rest := [.ref tr]) ⟨hx, hb, hml, hown, hts⟩ (c_X9_wordOf (l := l) (D := D) (a := a) (sz := s.heap.size) (hnd := (q_nds (q_ndl hnd) [] rfl rfl)) (hst := hst) (ha := ha)) (va_cwS 1 hts gX9_treeParent_X9_wordOf rfl rfl rfl (by decide +kernel) ⟨Nat.le_of_ble_eq_true rfl, Nat.le_of_ble_eq_true rfl⟩) ⟨qWx_blind, (qWx_of (q_Pof (fun _ h => absurd h List.not_mem_nil)) (q_Pof (fun _ h => absurd h List.not_mem_nil)) (hK.sub (tys' := []) [] rfl) hNw (qZ_at hZ hS (fun q h => hF q h)) hXt)⟩ rfl rfl hl.1 rfl (lv_room (Nat.le_of_ble_eq_true rfl)) dX9_treeParent_5 ⟨Nat.le_of_ble_eq_true rfl, Nat.le_of_ble_eq_true rfl⟩) hS (fun q _ h => hF q h) hF (fun q _ h => hF q h) (fun E9 ce9 q9 u9 t9 H9 locs9 ht9 hvm9 hpx9 hBX9 hz9 hk9 hS9 hc9 hv9 hcl9 => ?_) (fun r_1 u_5 t_4 H_2 locs_3 ht hvm hr_1 hB hz1 hk1 hS => ?_)
  · obtain ⟨hE9, hW9⟩ := hBX9
    exact vx_out (fun x9 h9 => (htab x9 h9).elim) hlocks hc9 hv9 hcl9 (fun t8 ht8 hvm8 => ⟨(), trivial, ⟨hE9, by show va_P D vwCl _ t8.heap; rw [ht8]; exact (q_keepP hP hk9 q_A0)⟩, ⟨by rw [ht8]; exact hS9.1, fun q8 a8 b8 => by rw [ht8]; exact hS9.2.1 q8 a8 b8⟩⟩) hS9.2.2 (Nat.le_of_ble_eq_true rfl) (Nat.le_of_ble_eq_true rfl)
  skip
  obtain ⟨w9_6, rfl⟩ : ∃ z, z = u_5 := ⟨_, rfl⟩
  obtain ⟨hB1, hB2, hB3⟩ := hB
  replace hB1 : va_P D vwCl ([] ++ [(w9_6, .inr (7, [.long (lN a), .int (nI (wl a)), .long (lN (al a))]))]) H_2 := by rw [← ht]; exact hB1
  obtain ⟨hP, hD⟩ := q_joinN (wc := []) (w1 := []) (wn := [(w9_6, .inr (7, [.long (lN a), .int (nI (wl a)), .long (lN (al a))]))]) (ws' := []) [] hP hD rfl rfl hk1 hF hB1 hB2 rfl
  have hK : va_K D vwCl [(cS, .object "FuzzyFens$Entry")] s := hK.app (va_K.moved hvm.symm hB3)
  have hP : va_P D vwCl [(w9_6, .inr (7, [.long (lN a), .int (nI (wl a)), .long (lN (al a))]))] H_2 := hP
  have hD : va_D A [(w9_6, .inr (7, [.long (lN a), .int (nI (wl a)), .long (lN (al a))]))] := hD
  have hR := q_ro hR0 hna hS
  obtain ⟨rfl, hgw⟩ := hr_1
  refine q_cvv (show va_rf (some w9_6) = .ref w9_6 from rfl) ?_
  refine va_csq (W.runV (As := [.ref w9_6]) (rest := []) ⟨hx, hb, hml, hown, hts⟩ (c_X6_find (l := l) (D := D) (tr := tr) (sh := sh) (ar := ar) (cS := cS) (f := f) (w0 := w9_6) (v := a) (ea := ea) (wa := wa) (pf := pf) (cn := cn) (dp := dp) (oc := oc) (ic := ic) (lf := lf) (pt := pt) (wd := wd) (n := n) (hv := by have := gw_lt hgw; omega) (hg := hg) (hfe := hfe) (hn40 := hn40)) (cwV 1 hts gX9_treeParent_X6_find rfl rfl rfl (by decide +kernel) ⟨Nat.le_of_ble_eq_true rfl, Nat.le_of_ble_eq_true rfl⟩) ⟨qP_blind, (va_recv hK hR (ci := 5) (q0 := 1) rfl rfl), (qP_of (va_P.app (show va_P D vwCl [(tr, .inr (5, [.ref sh])), (sh, .inr (4, [.ref ar, .int (nI n)])), (ar, .inl (cS, 40, .inr (.inr (.inr (.inr f))))), (w9_6, .inr (7, [.long (lN a), .int (nI (wl a)), .long (lN (al a))]))] _ from (va_P.app (hR.sub (ws' := [(tr, .inr (5, [.ref sh]))]) [1] rfl) (va_P.app (hR.sub (ws' := [(sh, .inr (4, [.ref ar, .int (nI n)]))]) [2] rfl) (va_P.app (hR.sub (ws' := [(ar, .inl (cS, 40, .inr (.inr (.inr (.inr f)))))]) [3] rfl) (hP.sub (ws' := [(w9_6, .inr (7, [.long (lN a), .int (nI (wl a)), .long (lN (al a))]))]) [0] rfl))))) (q_right hR)) (hK.sub (tys' := [(cS, .object "FuzzyFens$Entry")]) [0] rfl) hNw)⟩ rfl rfl hl.1 rfl (lv_room (Nat.le_of_ble_eq_true rfl)) dX9_treeParent_8 ⟨Nat.le_of_ble_eq_true rfl, Nat.le_of_ble_eq_true rfl⟩) (fun r_7 hr_7 => ?_)
  subst hr_7
  refine q_cvv (show va_rf ((ffi (fun k => decide (wd k = a)) n).map ea) = va_rf (Option.map ea (ffi (fun k => decide (wd k = a)) n)) from rfl) ?_
  refine q_astore_n (lv' := [(3, va_rf (Option.map ea (ffi (fun k => decide (wd k = a)) n))), (0, .ref xo), (1, .long (lN a))]) hx hb dX9_treeParent_11 rfl hl (by decide) rfl (fun ls hl => ?_)
  refine q_opt (o := (ffi (fun k => decide (wd k = a)) n)) (fun e_12 => ?_) (fun i7 e_12 => ?_)
  · skip
    have hl : lv_has ls 4 [(3, .null), (0, .ref xo), (1, .long (lN a))] := by rw [e_12] at hl; exact hl
    refine lv_aload_nN hx hb dX9_treeParent_12 rfl (lv_at hl 0 rfl) ?_
    refine lv_ifnullN (tgt := 23) hx hb dX9_treeParent_13 (by decide) ?_
    refine lv_ldc2 (v := -1) hx hb hown (hts (.constantLong RX9 152 (-1)) (List.mem_of_getElem? (i := 2) rfl)) dX9_treeParent_23 ?_
    refine vx_ret ?_
    refine W.widen (k := 1) (n := 6) (Nat.le_of_ble_eq_true rfl) (Nat.le_of_ble_eq_true rfl) ?_
    exact W.lret (v := (-1)) hx hb hr (fun t9 ht hW => ⟨⟨(-1), (), rfl, ⟨(by rw [e_12]; rfl), hgw⟩, by show va_P D vwCl _ t9.heap; rw [ht]; exact (va_P.sub (ws' := []) hP [] rfl)⟩, hS.F ht⟩) hS.2.2 dX9_treeParent_26
  · skip
    have hi7 := (ffi_some e_12).1
    have hl : lv_has ls 4 [(3, .ref (ea i7)), (0, .ref xo), (1, .long (lN a))] := by rw [e_12] at hl; exact hl
    refine lv_aload_n hx hb dX9_treeParent_12 rfl (lv_at hl 0 rfl) ?_
    refine lv_ifnull hx hb dX9_treeParent_13 ?_
    refine q_opt (o := pi i7) (fun e_16 => ?_) (fun q7 e_16 => ?_)
    · skip
      have hpf9 : pf i7 = none := by rw [hpi _ hi7, e_16]; rfl
      refine lv_aload_n hx hb dX9_treeParent_16 rfl (lv_at hl 0 rfl) ?_
      refine va_getN (host := "FuzzyFens") (D := D) (own := RX9) (ref := "FuzzyFens$Entry") (ci := 0) (v := va_rf (pf i7)) (C := RX0) (T := TX0) (N := 8) hx hb hts iX9_treeParent_X0 hown hK (E_at hR i7 (by omega)) 0 rfl rfl 1 (by decide) (va_Nw.use rfl (hNw.1 ("FuzzyFens", 148, "FuzzyFens$Entry", "parent", "LFuzzyFens$Entry;") (List.mem_of_getElem? (i := 10) rfl))) (fun _ h9 => h9) rfl dX9_treeParent_17 ?_
      refine q_cvv (show va_rf (pf i7) = .null from (by rw [hpf9]; rfl)) ?_
      refine lv_ifnonnullN hx hb dX9_treeParent_20 ?_
      refine lv_ldc2 (v := -1) hx hb hown (hts (.constantLong RX9 152 (-1)) (List.mem_of_getElem? (i := 2) rfl)) dX9_treeParent_23 ?_
      refine vx_ret ?_
      refine W.widen (k := 1) (n := 6) (Nat.le_of_ble_eq_true rfl) (Nat.le_of_ble_eq_true rfl) ?_
      exact W.lret (v := (-1)) hx hb hr (fun t9 ht hW => ⟨⟨(-1), (), rfl, ⟨(by rw [e_12]; show _ = lnn wd (pi i7); rw [e_16]; rfl), hgw⟩, by show va_P D vwCl _ t9.heap; rw [ht]; exact (va_P.sub (ws' := []) hP [] rfl)⟩, hS.F ht⟩) hS.2.2 dX9_treeParent_26
    · skip
      have hpf9 : pf i7 = some (ea q7) := by rw [hpi _ hi7, e_16]; rfl
      have hq7 := hpn _ _ hi7 e_16
      refine lv_aload_n hx hb dX9_treeParent_16 rfl (lv_at hl 0 rfl) ?_
      refine va_getN (host := "FuzzyFens") (D := D) (own := RX9) (ref := "FuzzyFens$Entry") (ci := 0) (v := va_rf (pf i7)) (C := RX0) (T := TX0) (N := 8) hx hb hts iX9_treeParent_X0 hown hK (E_at hR i7 (by omega)) 0 rfl rfl 1 (by decide) (va_Nw.use rfl (hNw.1 ("FuzzyFens", 148, "FuzzyFens$Entry", "parent", "LFuzzyFens$Entry;") (List.mem_of_getElem? (i := 10) rfl))) (fun _ h9 => h9) rfl dX9_treeParent_17 ?_
      refine q_cvv (show va_rf (pf i7) = .ref (ea q7) from (by rw [hpf9]; rfl)) ?_
      refine lv_ifnonnull (tgt := 27) hx hb dX9_treeParent_20 (by decide) ?_
      refine lv_aload_n hx hb dX9_treeParent_27 rfl (lv_at hl 0 rfl) ?_
      refine va_getN (host := "FuzzyFens") (D := D) (own := RX9) (ref := "FuzzyFens$Entry") (ci := 0) (v := va_rf (pf i7)) (C := RX0) (T := TX0) (N := 8) hx hb hts iX9_treeParent_X0 hown hK (E_at hR i7 (by omega)) 0 rfl rfl 1 (by decide) (va_Nw.use rfl (hNw.1 ("FuzzyFens", 148, "FuzzyFens$Entry", "parent", "LFuzzyFens$Entry;") (List.mem_of_getElem? (i := 10) rfl))) (fun _ h9 => h9) rfl dX9_treeParent_28 ?_
      refine q_cvv (show va_rf (pf i7) = .ref (ea q7) from (by rw [hpf9]; rfl)) ?_
      refine va_getN (host := "FuzzyFens") (D := D) (own := RX9) (ref := "FuzzyFens$Entry") (ci := 0) (v := .ref (wa q7)) (C := RX0) (T := TX0) (N := 8) hx hb hts iX9_treeParent_X0 hown hK (E_at hR q7 (by omega)) 0 rfl rfl 0 (by decide) (va_Nw.use rfl (hNw.1 ("FuzzyFens", 123, "FuzzyFens$Entry", "word", "LFuzzyFens$Word;") (List.mem_of_getElem? (i := 8) rfl))) (fun _ h9 => h9) rfl dX9_treeParent_31 ?_
      refine va_getN (host := "FuzzyFens") (D := D) (own := RX9) (ref := "FuzzyFens$Word") (ci := 7) (v := .long (lN (wd q7))) (C := RX8) (T := TX8) (N := 3) hx hb hts iX9_treeParent_X8 hown hK (W_at hR q7 (by omega)) 0 rfl rfl 0 (by decide) (va_Nw.use rfl (hNw.1 ("FuzzyFens", 154, "FuzzyFens$Word", "number", "J") (List.mem_of_getElem? (i := 1) rfl))) (fun _ h9 => h9) rfl dX9_treeParent_34 ?_
      refine vx_ret ?_
      refine W.widen (k := 1) (n := 6) (Nat.le_of_ble_eq_true rfl) (Nat.le_of_ble_eq_true rfl) ?_
      exact W.lret (v := lN (wd q7)) hx hb hr (fun t9 ht hW => ⟨⟨lN (wd q7), (), rfl, ⟨(by rw [e_12]; show _ = lnn wd (pi i7); rw [e_16]; rfl), hgw⟩, by show va_P D vwCl _ t9.heap; rw [ht]; exact (va_P.sub (ws' := []) hP [] rfl)⟩, hS.F ht⟩) hS.2.2 dX9_treeParent_37

set_option maxRecDepth 20000 in
theorem iX9_wordAt_X9 : ∀ w ∈ wsX90, w ∈ wsX9_wordAt := by decide +kernel
set_option maxHeartbeats 4000000 in
set_option maxRecDepth 100000 in
/-- wordAt -/
theorem c_X9_wordAt (l : Launch) (D : va_G) (sz : Nat) (xo : Nat) (gg : Nat) (gr : Nat) (ce : Nat) (tr : Nat) (sh : Nat) (ar : Nat) (ti : Nat) (n1 : Nat) (l1 : Nat) (s2 : Nat) (a2 : Nat) (s3 : Nat) (a3 : Nat) (n2 : Nat) (l2 : Nat) (cS2 : ClassId) (fk : Nat → Option Nat) (m : Nat) (ki : Nat → Nat) (ea : Nat → Nat) (wa : Nat → Nat) (pf : Nat → Option Nat) (cn : Nat → Nat) (dp : Nat → Nat) (oc : Nat → Nat) (ic : Nat → Int32) (lf : Nat → Int32) (pt : Nat → Int32) (wd : Nat → Nat) (n : Nat) (x9 : Int32) (hst : l.stackTraces = false) (hnd : (([] : List Nat) ++ ([xo, s2, a2] ++ (rg ea n ++ rg wa n))).Nodup) (hm : m ≤ 40) (hf : ∀ j, j < m → fk j = some (ea (ki j))) (hki : ∀ j, j < m → ki j < n) : vx_Met l yX9_wordAt wsX9_wordAt { frames := 7, cells := 1, slots := 6, locals := 104 } (va_Pc [.ref xo, .int x9] (qWx D sz ([(xo, .inr (8, [.ref gg, .ref tr, .ref ti, .ref s2, .ref s3, .ref n2])), (s2, .inr (4, [.ref a2, .int (nI m)])), (a2, .inl (cS2, 40, .inr (.inr (.inr (.inr fk)))))] ++ (EW ea wa pf cn dp oc ic lf pt n ++ WW wa wd n)) [] [(cS2, .object "FuzzyFens$Entry")])) (va_Ql (fun (rv : Int64) (uv : Unit) => rv = lN (wd (ki (kz x9))) ∧ 0 ≤ x9 ∧ x9 < nI m) (fun (uv : Unit) (tv : State) => va_P D vwCl [] tv.heap) (va_A [] sz)) (vx_X (fun _ : Unit => True) (fun (E9 : String) (uv : Unit) (tv : State) => ((E9 = q_IO ∧ (¬ (0 ≤ x9 ∧ x9 < nI m)))) ∧ va_P D vwCl ([]) tv.heap) (va_A [] sz)) 1 6 (va_A [] sz) := by
  refine vx_ofW (cc := cX9_wordAt) (maxL := 2) (ret := (some .long)) (by decide) rfl ?_
  intro pM eM s mi9 argsM belowM methM cM sM B hml htab hv
  obtain ⟨rfl, hsz, hR0, hP, hK, hNw, hZ, hXt⟩ := hv
  have hx := B.exec
  have hb := B.bytes
  have hr := B.returns
  have hts := atoms_spec (ws := wsX9_wordAt) B.pre
  have hown : s.vm.findClass RX9 = some mi9.cls := findClass_of_methodNamed B.named
  have hlocks := B.notSynchronized
  subst hsz
  have hna := q_na (RW := []) (RO := [(xo, .inr (8, [.ref gg, .ref tr, .ref ti, .ref s2, .ref s3, .ref n2])), (s2, .inr (4, [.ref a2, .int (nI m)])), (a2, .inl (cS2, 40, .inr (.inr (.inr (.inr fk)))))] ++ (EW ea wa pf cn dp oc ic lf pt n ++ WW wa wd n)) hnd rfl (by rw [List.map_append, List.map_append, EW_fst, WW_fst]; rfl) hR0
  have hD := q_D (RW := []) (sz := s.heap.size) hnd rfl
  have hnR : (([(xo, .inr (8, [.ref gg, .ref tr, .ref ti, .ref s2, .ref s3, .ref n2])), (s2, .inr (4, [.ref a2, .int (nI m)])), (a2, .inl (cS2, 40, .inr (.inr (.inr (.inr fk)))))] ++ (EW ea wa pf cn dp oc ic lf pt n ++ WW wa wd n) : va_W).map (·.1)).Nodup := by rw [show ([(xo, .inr (8, [.ref gg, .ref tr, .ref ti, .ref s2, .ref s3, .ref n2])), (s2, .inr (4, [.ref a2, .int (nI m)])), (a2, .inl (cS2, 40, .inr (.inr (.inr (.inr fk)))))] ++ (EW ea wa pf cn dp oc ic lf pt n ++ WW wa wd n) : va_W).map (·.1) = ([xo, s2, a2] ++ (rg ea n ++ rg wa n)) from (by rw [List.map_append, List.map_append, EW_fst, WW_fst]; rfl)]; exact (List.nodup_append.mp hnd).2.1
  have hA : ∀ q : Nat, s.heap.size ≤ q → va_A [] s.heap.size q := fun q h => Or.inr h
  generalize hAe : va_A [] s.heap.size = A at hna hD hA hZ ⊢
  have hS : va_S A s.heap s.heap [] := va_S.rf
  have hR := hR0
  have hP : va_P D vwCl [] s.heap := hP
  obtain ⟨⟨tR, hZR, hTR⟩, ⟨tP, hZP, hTP⟩, hUS, hSS⟩ := id hZ
  have hl := lv_entry ([.ref xo, .int x9]) (n := 2) (Nat.le_of_ble_eq_true rfl)
  rw [lg_entry_eq]
  generalize (lg_sl ([.ref xo, .int x9]) ++ List.replicate (2 - (lg_sl ([.ref xo, .int x9])).length) Slot.unset).toArray = ls at hl ⊢
  have hl : lv_has ls 2 [(0, .ref xo), (1, .int x9)] := hl
  refine lv_aload_n hx hb dX9_wordAt_0 rfl (lv_at hl 0 rfl) ?_
  refine va_get (D := D) (own := RX9) (ref := "FuzzyFens") (ci := 8) (v := .ref s2) (C := RX9) (T := TX9) (N := 6) hx hb hts iX9_wordAt_X9 hown hK hR 0 rfl rfl 3 (by decide) (hts (.fieldLink RX9 33 "FuzzyFens" "knownWords" "LFuzzyFens$Shelf;") (List.mem_of_getElem? (i := 1) rfl)) (fun _ h9 => h9) rfl dX9_wordAt_1 ?_
  refine lv_iload_n hx hb dX9_wordAt_4 rfl (lv_at hl 1 rfl) ?_
  have hF := va_free (wc := []) hD hS hA [] rfl
  refine vx_calll (vx_runS (As := [.ref s2, .int x9]) (rest := []) ⟨hx, hb, hml, hown, hts⟩ (c_X9_numberAt (l := l) (D := D) (s2 := s2) (a2 := a2) (cS2 := cS2) (fk := fk) (m := m) (ki := ki) (ea := ea) (wa := wa) (pf := pf) (cn := cn) (dp := dp) (oc := oc) (ic := ic) (lf := lf) (pt := pt) (wd := wd) (n := n) (x9 := x9) (sz := s.heap.size) (hnd := (q_ndt hnd [1, 2] rfl rfl)) (hst := hst) (hm := hm) (hf := hf) (hki := hki)) (va_cwS 2 hts gX9_wordAt_X9_numberAt rfl rfl rfl (by decide +kernel) ⟨Nat.le_of_ble_eq_true rfl, Nat.le_of_ble_eq_true rfl⟩) ⟨qWx_blind, (qWx_of (va_P.app (hR.sub (ws' := [(s2, .inr (4, [.ref a2, .int (nI m)])), (a2, .inl (cS2, 40, .inr (.inr (.inr (.inr fk)))))]) [1, 2] rfl) (q_right hR)) (q_Pof (fun _ h => absurd h List.not_mem_nil)) (hK.sub (tys' := [(cS2, .object "FuzzyFens$Entry")]) [0] rfl) hNw (qZ_at hZ hS (fun q h => hF q h)) hXt)⟩ rfl rfl hl.1 rfl (lv_room (Nat.le_of_ble_eq_true rfl)) dX9_wordAt_5 ⟨Nat.le_of_ble_eq_true rfl, Nat.le_of_ble_eq_true rfl⟩) hS (fun q _ h => hF q h) hF (fun q _ h => hF q h) (fun E9 ce9 q9 u9 t9 H9 locs9 ht9 hvm9 hpx9 hBX9 hz9 hk9 hS9 hc9 hv9 hcl9 => ?_) (fun r_1 u_5 t_4 H_2 locs_3 ht hvm hr_1 hB hz1 hk1 hS => ?_)
  · obtain ⟨hE9, hW9⟩ := hBX9
    exact vx_out (fun x9 h9 => (htab x9 h9).elim) hlocks hc9 hv9 hcl9 (fun t8 ht8 hvm8 => ⟨(), trivial, ⟨hE9, by show va_P D vwCl _ t8.heap; rw [ht8]; exact (q_keepP hP hk9 q_A0)⟩, ⟨by rw [ht8]; exact hS9.1, fun q8 a8 b8 => by rw [ht8]; exact hS9.2.1 q8 a8 b8⟩⟩) hS9.2.2 (Nat.le_of_ble_eq_true rfl) (Nat.le_of_ble_eq_true rfl)
  skip
  replace hB : va_P D vwCl [] H_2 := by rw [← ht]; exact hB
  obtain ⟨hP, hD⟩ := q_join (wc := []) (w1 := []) (ws' := []) [] hP hD rfl rfl hk1 hB rfl
  have hR := q_ro hR0 hna hS
  obtain ⟨rfl, hgw⟩ := hr_1
  refine vx_ret ?_
  refine W.widen (k := 1) (n := 6) (Nat.le_of_ble_eq_true rfl) (Nat.le_of_ble_eq_true rfl) ?_
  exact W.lret (v := lN (wd (ki (kz x9)))) hx hb hr (fun t9 ht hW => ⟨⟨lN (wd (ki (kz x9))), (), rfl, ⟨rfl, hgw⟩, by show va_P D vwCl _ t9.heap; rw [ht]; exact hP⟩, hS.F ht⟩) hS.2.2 dX9_wordAt_8

set_option maxRecDepth 20000 in
theorem iX9_distance_X9 : ∀ w ∈ wsX90, w ∈ wsX9_distance := by decide +kernel
set_option maxHeartbeats 4000000 in
set_option maxRecDepth 100000 in
/-- distance -/
theorem c_X9_distance (l : Launch) (D : va_G) (sz : Nat) (xo : Nat) (gg : Nat) (gr : Nat) (ce : Nat) (tr : Nat) (sh : Nat) (ar : Nat) (ti : Nat) (n1 : Nat) (l1 : Nat) (s2 : Nat) (a2 : Nat) (s3 : Nat) (a3 : Nat) (n2 : Nat) (l2 : Nat) (cG : ClassId) (fc : Nat → Int32) (a : Nat) (b : Nat) (hst : l.stackTraces = false) (hnd : ([ce] ++ [xo, gg, gr]).Nodup) (ha : a < 2 ^ 64) (hb9 : b < 2 ^ 64) : vx_Met l yX9_distance wsX9_distance { frames := 7, cells := 2, slots := 12, locals := 103 } (va_Pc [.ref xo, .long (lN a), .long (lN b)] (qWx D sz ([(xo, .inr (8, [.ref gg, .ref tr, .ref ti, .ref s2, .ref s3, .ref n2])), (gg, .inr (1, [.ref gr])), (gr, .inr (2, [.ref ce]))]) [(ce, .inl (cG, 121, .inl fc))] [(cG, .int)])) (va_Qi (fun (rv : Int32) (uv : (Nat → Int32)) => rv = nI (lev (ltz a) (ltz b) (wl a) (wl b)) ∧ gw a ∧ gw b) (fun (uv : (Nat → Int32)) (tv : State) => va_P D vwCl [(ce, .inl (cG, 121, .inl uv))] tv.heap) (va_A [(ce, .inl (cG, 121, .inl fc))] sz)) (vx_X (fun _ : Unit => True) (fun (E9 : String) (uv : Unit) (tv : State) => ((E9 = q_IA ∧ (¬ (gw a ∧ gw b)))) ∧ va_P D vwCl ([(ce, .inl (cG, 121, .inl fc))]) tv.heap) (va_A [(ce, .inl (cG, 121, .inl fc))] sz)) 2 12 (va_A [(ce, .inl (cG, 121, .inl fc))] sz) := by
  refine vx_ofW (cc := cX9_distance) (maxL := 5) (ret := (some .int)) (by decide) rfl ?_
  intro pM eM s mi9 argsM belowM methM cM sM B hml htab hv
  obtain ⟨rfl, hsz, hR0, hP, hK, hNw, hZ, hXt⟩ := hv
  have hx := B.exec
  have hb := B.bytes
  have hr := B.returns
  have hts := atoms_spec (ws := wsX9_distance) B.pre
  have hown : s.vm.findClass RX9 = some mi9.cls := findClass_of_methodNamed B.named
  have hlocks := B.notSynchronized
  subst hsz
  have hna := q_na (RW := [(ce, .inl (cG, 121, .inl fc))]) (RO := [(xo, .inr (8, [.ref gg, .ref tr, .ref ti, .ref s2, .ref s3, .ref n2])), (gg, .inr (1, [.ref gr])), (gr, .inr (2, [.ref ce]))]) hnd rfl rfl hR0
  have hD := q_D (RW := [(ce, .inl (cG, 121, .inl fc))]) (sz := s.heap.size) hnd rfl
  have hnR : (([(xo, .inr (8, [.ref gg, .ref tr, .ref ti, .ref s2, .ref s3, .ref n2])), (gg, .inr (1, [.ref gr])), (gr, .inr (2, [.ref ce]))] : va_W).map (·.1)).Nodup := by rw [show ([(xo, .inr (8, [.ref gg, .ref tr, .ref ti, .ref s2, .ref s3, .ref n2])), (gg, .inr (1, [.ref gr])), (gr, .inr (2, [.ref ce]))] : va_W).map (·.1) = [xo, gg, gr] from rfl]; exact (List.nodup_append.mp hnd).2.1
  have hA : ∀ q : Nat, s.heap.size ≤ q → va_A [(ce, .inl (cG, 121, .inl fc))] s.heap.size q := fun q h => Or.inr h
  generalize hAe : va_A [(ce, .inl (cG, 121, .inl fc))] s.heap.size = A at hna hD hA hZ ⊢
  have hS : va_S A s.heap s.heap [] := va_S.rf
  have hR := hR0
  have hP : va_P D vwCl [(ce, .inl (cG, 121, .inl fc))] s.heap := hP
  obtain ⟨⟨tR, hZR, hTR⟩, ⟨tP, hZP, hTP⟩, hUS, hSS⟩ := id hZ
  have hl := lv_entry ([.ref xo, .long (lN a), .long (lN b)]) (n := 5) (Nat.le_of_ble_eq_true rfl)
  rw [lg_entry_eq]
  generalize (lg_sl ([.ref xo, .long (lN a), .long (lN b)]) ++ List.replicate (5 - (lg_sl ([.ref xo, .long (lN a), .long (lN b)])).length) Slot.unset).toArray = ls at hl ⊢
  have hl : lv_has ls 5 [(0, .ref xo), (1, .long (lN a)), (3, .long (lN b))] := hl
  refine lv_aload_n hx hb dX9_distance_0 rfl (lv_at hl 0 rfl) ?_
  refine va_get (D := D) (own := RX9) (ref := "FuzzyFens") (ci := 8) (v := .ref gg) (C := RX9) (T := TX9) (N := 6) hx hb hts iX9_distance_X9 hown hK hR 0 rfl rfl 0 (by decide) (hts (.fieldLink RX9 12 "FuzzyFens" "gauge" "LFuzzyFens$Gauge;") (List.mem_of_getElem? (i := 1) rfl)) (fun _ h9 => h9) rfl dX9_distance_1 ?_
  refine lv_lload_n hx hb dX9_distance_4 rfl (lv_at hl 1 rfl) ?_
  have hF := va_free (wc := []) hD hS hA [] rfl
  refine vx_callq (vx_runS (As := [.long (lN a)]) (rest := [.ref gg]) ⟨hx, hb, hml, hown, hts⟩ (c_X9_wordOf (l := l) (D := D) (a := a) (sz := s.heap.size) (hnd := (q_nds hnd [] rfl rfl)) (hst := hst) (ha := ha)) (va_cwS 1 hts gX9_distance_X9_wordOf rfl rfl rfl (by decide +kernel) ⟨Nat.le_of_ble_eq_true rfl, Nat.le_of_ble_eq_true rfl⟩) ⟨qWx_blind, (qWx_of (q_Pof (fun _ h => absurd h List.not_mem_nil)) (q_Pof (fun _ h => absurd h List.not_mem_nil)) (hK.sub (tys' := []) [] rfl) hNw (qZ_at hZ hS (fun q h => hF q h)) hXt)⟩ rfl rfl hl.1 rfl (lv_room (Nat.le_of_ble_eq_true rfl)) dX9_distance_5 ⟨Nat.le_of_ble_eq_true rfl, Nat.le_of_ble_eq_true rfl⟩) hS (fun q _ h => hF q h) hF (fun q _ h => hF q h) (fun E9 ce9 q9 u9 t9 H9 locs9 ht9 hvm9 hpx9 hBX9 hz9 hk9 hS9 hc9 hv9 hcl9 => ?_) (fun r_1 u_5 t_4 H_2 locs_3 ht hvm hr_1 hB hz1 hk1 hS => ?_)
  · obtain ⟨hE9, hW9⟩ := hBX9
    exact vx_out (fun x9 h9 => (htab x9 h9).elim) hlocks hc9 hv9 hcl9 (fun t8 ht8 hvm8 => ⟨(), trivial, ⟨⟨hE9.1, fun h9 => hE9.2 h9.1⟩, by show va_P D vwCl _ t8.heap; rw [ht8]; exact (q_keepP hP hk9 q_A0)⟩, ⟨by rw [ht8]; exact hS9.1, fun q8 a8 b8 => by rw [ht8]; exact hS9.2.1 q8 a8 b8⟩⟩) hS9.2.2 (Nat.le_of_ble_eq_true rfl) (Nat.le_of_ble_eq_true rfl)
  skip
  obtain ⟨w9_6, rfl⟩ : ∃ z, z = u_5 := ⟨_, rfl⟩
  obtain ⟨hB1, hB2, hB3⟩ := hB
  replace hB1 : va_P D vwCl ([] ++ [(w9_6, .inr (7, [.long (lN a), .int (nI (wl a)), .long (lN (al a))]))]) H_2 := by rw [← ht]; exact hB1
  obtain ⟨hP, hD⟩ := q_joinN (wc := []) (w1 := []) (wn := [(w9_6, .inr (7, [.long (lN a), .int (nI (wl a)), .long (lN (al a))]))]) (ws' := [(ce, .inl (cG, 121, .inl fc))]) [] hP hD rfl rfl hk1 hF hB1 hB2 rfl
  have hK : va_K D vwCl [(cG, .int)] s := hK.app (va_K.moved hvm.symm hB3)
  have hP : va_P D vwCl [(ce, .inl (cG, 121, .inl fc)), (w9_6, .inr (7, [.long (lN a), .int (nI (wl a)), .long (lN (al a))]))] H_2 := hP
  have hD : va_D A [(ce, .inl (cG, 121, .inl fc)), (w9_6, .inr (7, [.long (lN a), .int (nI (wl a)), .long (lN (al a))]))] := hD
  have hR := q_ro hR0 hna hS
  obtain ⟨rfl, hgw1⟩ := hr_1
  refine q_cvv (show va_rf (some w9_6) = .ref w9_6 from rfl) ?_
  refine lv_lload_n hx hb dX9_distance_8 rfl (lv_at hl 2 rfl) ?_
  have hF := va_free (wc := []) hD hS hA [] rfl
  refine vx_callq (vx_runS (As := [.long (lN b)]) (rest := [.ref w9_6, .ref gg]) ⟨hx, hb, hml, hown, hts⟩ (c_X9_wordOf (l := l) (D := D) (a := b) (sz := H_2.size) (hnd := (q_nds (q_ndg (l1 := [ce, w9_6]) (l2 := [xo, gg, gr]) hD hnR hna rfl rfl) [] rfl rfl)) (hst := hst) (ha := hb9)) (va_cwS 1 hts gX9_distance_X9_wordOf rfl rfl rfl (by decide +kernel) ⟨Nat.le_of_ble_eq_true rfl, Nat.le_of_ble_eq_true rfl⟩) ⟨qWx_blind, (qWx_of (q_Pof (fun _ h => absurd h List.not_mem_nil)) (q_Pof (fun _ h => absurd h List.not_mem_nil)) (hK.sub (tys' := []) [] rfl) hNw (qZ_at hZ hS (fun q h => hF q h)) hXt)⟩ rfl rfl hl.1 rfl (lv_room (Nat.le_of_ble_eq_true rfl)) dX9_distance_9 ⟨Nat.le_of_ble_eq_true rfl, Nat.le_of_ble_eq_true rfl⟩) hS (fun q _ h => hF q h) hF (fun q _ h => hF q h) (fun E9 ce9 q9 u9 t9 H9 locs9 ht9 hvm9 hpx9 hBX9 hz9 hk9 hS9 hc9 hv9 hcl9 => ?_) (fun r_7 u_11 t_10 H_8 locs_9 ht hvm hr_7 hB hz1 hk1 hS => ?_)
  · obtain ⟨hE9, hW9⟩ := hBX9
    exact vx_out (fun x9 h9 => (htab x9 h9).elim) hlocks hc9 hv9 hcl9 (fun t8 ht8 hvm8 => ⟨(), trivial, ⟨⟨hE9.1, fun h9 => hE9.2 h9.2⟩, by show va_P D vwCl _ t8.heap; rw [ht8]; exact (va_P.sub (ws' := [(ce, .inl (cG, 121, .inl fc))]) (q_keepP hP hk9 q_A0) [0] rfl)⟩, ⟨by rw [ht8]; exact hS9.1, fun q8 a8 b8 => by rw [ht8]; exact hS9.2.1 q8 a8 b8⟩⟩) hS9.2.2 (Nat.le_of_ble_eq_true rfl) (Nat.le_of_ble_eq_true rfl)
  skip
  obtain ⟨w9_12, rfl⟩ : ∃ z, z = u_11 := ⟨_, rfl⟩
  obtain ⟨hB1, hB2, hB3⟩ := hB
  replace hB1 : va_P D vwCl ([] ++ [(w9_12, .inr (7, [.long (lN b), .int (nI (wl b)), .long (lN (al b))]))]) H_8 := by rw [← ht]; exact hB1
  obtain ⟨hP, hD⟩ := q_joinN (wc := []) (w1 := []) (wn := [(w9_12, .inr (7, [.long (lN b), .int (nI (wl b)), .long (lN (al b))]))]) (ws' := [(ce, .inl (cG, 121, .inl fc)), (w9_6, .inr (7, [.long (lN a), .int (nI (wl a)), .long (lN (al a))]))]) [] hP hD rfl rfl hk1 hF hB1 hB2 rfl
  have hK : va_K D vwCl [(cG, .int)] s := hK.app (va_K.moved hvm.symm hB3)
  have hP : va_P D vwCl [(ce, .inl (cG, 121, .inl fc)), (w9_6, .inr (7, [.long (lN a), .int (nI (wl a)), .long (lN (al a))])), (w9_12, .inr (7, [.long (lN b), .int (nI (wl b)), .long (lN (al b))]))] H_8 := hP
  have hD : va_D A [(ce, .inl (cG, 121, .inl fc)), (w9_6, .inr (7, [.long (lN a), .int (nI (wl a)), .long (lN (al a))])), (w9_12, .inr (7, [.long (lN b), .int (nI (wl b)), .long (lN (al b))]))] := hD
  have hR := q_ro hR0 hna hS
  obtain ⟨rfl, hgw2⟩ := hr_7
  refine q_cvv (show va_rf (some w9_12) = .ref w9_12 from rfl) ?_
  have hF := va_free (wc := [(ce, .inl (cG, 121, .inl fc))]) hD hS hA [0] rfl
  refine va_calli (va_runV (As := [.ref w9_6, .ref w9_12]) (rest := []) ⟨hx, hb, hml, hown, hts⟩ (c_X1_lettersApart (l := l) (D := D) (g := gg) (gr := gr) (ce := ce) (cG := cG) (f := fc) (w := w9_6) (v := w9_12) (a := a) (b := b) (sz := H_8.size) (hnd := (q_nds (q_ndg (l1 := [ce, w9_6, w9_12]) (l2 := [xo, gg, gr]) hD hnR hna rfl rfl) [0, 4, 5, 1, 2] rfl rfl)) (hga := hgw1) (hgb := hgw2)) (cwV 2 hts gX9_distance_X1_lettersApart rfl rfl rfl (by decide +kernel) ⟨Nat.le_of_ble_eq_true rfl, Nat.le_of_ble_eq_true rfl⟩) ⟨qW_blind, (va_recv hK hR (ci := 1) (q0 := 1) rfl rfl), (qW_of (show va_P D vwCl [(gg, .inr (1, [.ref gr])), (gr, .inr (2, [.ref ce])), (w9_6, .inr (7, [.long (lN a), .int (nI (wl a)), .long (lN (al a))])), (w9_12, .inr (7, [.long (lN b), .int (nI (wl b)), .long (lN (al b))]))] _ from (va_P.app (hR.sub (ws' := [(gg, .inr (1, [.ref gr]))]) [1] rfl) (va_P.app (hR.sub (ws' := [(gr, .inr (2, [.ref ce]))]) [2] rfl) (va_P.app (hP.sub (ws' := [(w9_6, .inr (7, [.long (lN a), .int (nI (wl a)), .long (lN (al a))]))]) [1] rfl) (hP.sub (ws' := [(w9_12, .inr (7, [.long (lN b), .int (nI (wl b)), .long (lN (al b))]))]) [2] rfl))))) (hP.sub (ws' := [(ce, .inl (cG, 121, .inl fc))]) [0] rfl) (hK.sub (tys' := [(cG, .int)]) [0] rfl) hNw)⟩ rfl rfl hl.1 rfl (lv_room (Nat.le_of_ble_eq_true rfl)) dX9_distance_12 ⟨Nat.le_of_ble_eq_true rfl, Nat.le_of_ble_eq_true rfl⟩) hS (fun q _ h => hF q h) hF (fun r_13 u_17 t_16 H_14 locs_15 ht hvm hr_13 hB hz1 hk1 hS => ?_)
  obtain ⟨f2_18, rfl⟩ : ∃ z, z = u_17 := ⟨_, rfl⟩
  replace hB : va_P D vwCl [(ce, .inl (cG, 121, .inl f2_18))] H_14 := by rw [← ht]; exact hB
  obtain ⟨hP, hD⟩ := q_join (wc := [(ce, .inl (cG, 121, .inl fc))]) (w1 := [(ce, .inl (cG, 121, .inl f2_18))]) (ws' := [(ce, .inl (cG, 121, .inl f2_18)), (w9_6, .inr (7, [.long (lN a), .int (nI (wl a)), .long (lN (al a))])), (w9_12, .inr (7, [.long (lN b), .int (nI (wl b)), .long (lN (al b))]))]) [0] hP hD rfl rfl hk1 hB rfl
  have hR := q_ro hR0 hna hS
  subst hr_13
  refine vx_ret ?_
  refine W.widen (k := 2) (n := 12) (Nat.le_of_ble_eq_true rfl) (Nat.le_of_ble_eq_true rfl) ?_
  exact W.iret (v := nI (lev (ltz a) (ltz b) (wl a) (wl b))) hx hb hr (fun t9 ht hW => ⟨⟨nI (lev (ltz a) (ltz b) (wl a) (wl b)), f2_18, rfl, ⟨rfl, ⟨hgw1, hgw2⟩⟩, by show va_P D vwCl _ t9.heap; rw [ht]; exact (va_P.sub (ws' := [(ce, .inl (cG, 121, .inl f2_18))]) hP [0] rfl)⟩, hS.F ht⟩) hS.2.2 dX9_distance_15

set_option maxRecDepth 20000 in
theorem iX9_price_X9 : ∀ w ∈ wsX90, w ∈ wsX9_price := by decide +kernel
set_option maxHeartbeats 4000000 in
set_option maxRecDepth 100000 in
/-- price -/
theorem c_X9_price (l : Launch) (D : va_G) (sz : Nat) (xo : Nat) (gg : Nat) (gr : Nat) (ce : Nat) (tr : Nat) (sh : Nat) (ar : Nat) (ti : Nat) (n1 : Nat) (l1 : Nat) (s2 : Nat) (a2 : Nat) (s3 : Nat) (a3 : Nat) (n2 : Nat) (l2 : Nat) (cG : ClassId) (fc : Nat → Int32) (a : Nat) (b : Nat) (hst : l.stackTraces = false) (hnd : ([ce] ++ [xo, gg, gr]).Nodup) (ha : a < 2 ^ 64) (hb9 : b < 2 ^ 64) : vx_Met l yX9_price wsX9_price { frames := 7, cells := 2, slots := 12, locals := 115 } (va_Pc [.ref xo, .long (lN a), .long (lN b)] (qWx D sz ([(xo, .inr (8, [.ref gg, .ref tr, .ref ti, .ref s2, .ref s3, .ref n2])), (gg, .inr (1, [.ref gr])), (gr, .inr (2, [.ref ce]))]) [(ce, .inl (cG, 121, .inl fc))] [(cG, .int)])) (va_Qi (fun (rv : Int32) (uv : (Nat → Int32)) => rv = nI (pr (ltz a) (ltz b) (wl a) (wl b)) ∧ gw a ∧ gw b) (fun (uv : (Nat → Int32)) (tv : State) => va_P D vwCl [(ce, .inl (cG, 121, .inl uv))] tv.heap) (va_A [(ce, .inl (cG, 121, .inl fc))] sz)) (vx_X (fun _ : Unit => True) (fun (E9 : String) (uv : Unit) (tv : State) => ((E9 = q_IA ∧ (¬ (gw a ∧ gw b)))) ∧ va_P D vwCl ([(ce, .inl (cG, 121, .inl fc))]) tv.heap) (va_A [(ce, .inl (cG, 121, .inl fc))] sz)) 2 12 (va_A [(ce, .inl (cG, 121, .inl fc))] sz) := by
  refine vx_ofW (cc := cX9_price) (maxL := 5) (ret := (some .int)) (by decide) rfl ?_
  intro pM eM s mi9 argsM belowM methM cM sM B hml htab hv
  obtain ⟨rfl, hsz, hR0, hP, hK, hNw, hZ, hXt⟩ := hv
  have hx := B.exec
  have hb := B.bytes
  have hr := B.returns
  have hts := atoms_spec (ws := wsX9_price) B.pre
  have hown : s.vm.findClass RX9 = some mi9.cls := findClass_of_methodNamed B.named
  have hlocks := B.notSynchronized
  subst hsz
  have hna := q_na (RW := [(ce, .inl (cG, 121, .inl fc))]) (RO := [(xo, .inr (8, [.ref gg, .ref tr, .ref ti, .ref s2, .ref s3, .ref n2])), (gg, .inr (1, [.ref gr])), (gr, .inr (2, [.ref ce]))]) hnd rfl rfl hR0
  have hD := q_D (RW := [(ce, .inl (cG, 121, .inl fc))]) (sz := s.heap.size) hnd rfl
  have hnR : (([(xo, .inr (8, [.ref gg, .ref tr, .ref ti, .ref s2, .ref s3, .ref n2])), (gg, .inr (1, [.ref gr])), (gr, .inr (2, [.ref ce]))] : va_W).map (·.1)).Nodup := by rw [show ([(xo, .inr (8, [.ref gg, .ref tr, .ref ti, .ref s2, .ref s3, .ref n2])), (gg, .inr (1, [.ref gr])), (gr, .inr (2, [.ref ce]))] : va_W).map (·.1) = [xo, gg, gr] from rfl]; exact (List.nodup_append.mp hnd).2.1
  have hA : ∀ q : Nat, s.heap.size ≤ q → va_A [(ce, .inl (cG, 121, .inl fc))] s.heap.size q := fun q h => Or.inr h
  generalize hAe : va_A [(ce, .inl (cG, 121, .inl fc))] s.heap.size = A at hna hD hA hZ ⊢
  have hS : va_S A s.heap s.heap [] := va_S.rf
  have hR := hR0
  have hP : va_P D vwCl [(ce, .inl (cG, 121, .inl fc))] s.heap := hP
  obtain ⟨⟨tR, hZR, hTR⟩, ⟨tP, hZP, hTP⟩, hUS, hSS⟩ := id hZ
  have hl := lv_entry ([.ref xo, .long (lN a), .long (lN b)]) (n := 5) (Nat.le_of_ble_eq_true rfl)
  rw [lg_entry_eq]
  generalize (lg_sl ([.ref xo, .long (lN a), .long (lN b)]) ++ List.replicate (5 - (lg_sl ([.ref xo, .long (lN a), .long (lN b)])).length) Slot.unset).toArray = ls at hl ⊢
  have hl : lv_has ls 5 [(0, .ref xo), (1, .long (lN a)), (3, .long (lN b))] := hl
  refine lv_aload_n hx hb dX9_price_0 rfl (lv_at hl 0 rfl) ?_
  refine va_get (D := D) (own := RX9) (ref := "FuzzyFens") (ci := 8) (v := .ref gg) (C := RX9) (T := TX9) (N := 6) hx hb hts iX9_price_X9 hown hK hR 0 rfl rfl 0 (by decide) (hts (.fieldLink RX9 12 "FuzzyFens" "gauge" "LFuzzyFens$Gauge;") (List.mem_of_getElem? (i := 1) rfl)) (fun _ h9 => h9) rfl dX9_price_1 ?_
  refine lv_lload_n hx hb dX9_price_4 rfl (lv_at hl 1 rfl) ?_
  have hF := va_free (wc := []) hD hS hA [] rfl
  refine vx_callq (vx_runS (As := [.long (lN a)]) (rest := [.ref gg]) ⟨hx, hb, hml, hown, hts⟩ (c_X9_wordOf (l := l) (D := D) (a := a) (sz := s.heap.size) (hnd := (q_nds hnd [] rfl rfl)) (hst := hst) (ha := ha)) (va_cwS 1 hts gX9_price_X9_wordOf rfl rfl rfl (by decide +kernel) ⟨Nat.le_of_ble_eq_true rfl, Nat.le_of_ble_eq_true rfl⟩) ⟨qWx_blind, (qWx_of (q_Pof (fun _ h => absurd h List.not_mem_nil)) (q_Pof (fun _ h => absurd h List.not_mem_nil)) (hK.sub (tys' := []) [] rfl) hNw (qZ_at hZ hS (fun q h => hF q h)) hXt)⟩ rfl rfl hl.1 rfl (lv_room (Nat.le_of_ble_eq_true rfl)) dX9_price_5 ⟨Nat.le_of_ble_eq_true rfl, Nat.le_of_ble_eq_true rfl⟩) hS (fun q _ h => hF q h) hF (fun q _ h => hF q h) (fun E9 ce9 q9 u9 t9 H9 locs9 ht9 hvm9 hpx9 hBX9 hz9 hk9 hS9 hc9 hv9 hcl9 => ?_) (fun r_1 u_5 t_4 H_2 locs_3 ht hvm hr_1 hB hz1 hk1 hS => ?_)
  · obtain ⟨hE9, hW9⟩ := hBX9
    exact vx_out (fun x9 h9 => (htab x9 h9).elim) hlocks hc9 hv9 hcl9 (fun t8 ht8 hvm8 => ⟨(), trivial, ⟨⟨hE9.1, fun h9 => hE9.2 h9.1⟩, by show va_P D vwCl _ t8.heap; rw [ht8]; exact (q_keepP hP hk9 q_A0)⟩, ⟨by rw [ht8]; exact hS9.1, fun q8 a8 b8 => by rw [ht8]; exact hS9.2.1 q8 a8 b8⟩⟩) hS9.2.2 (Nat.le_of_ble_eq_true rfl) (Nat.le_of_ble_eq_true rfl)
  skip
  obtain ⟨w9_6, rfl⟩ : ∃ z, z = u_5 := ⟨_, rfl⟩
  obtain ⟨hB1, hB2, hB3⟩ := hB
  replace hB1 : va_P D vwCl ([] ++ [(w9_6, .inr (7, [.long (lN a), .int (nI (wl a)), .long (lN (al a))]))]) H_2 := by rw [← ht]; exact hB1
  obtain ⟨hP, hD⟩ := q_joinN (wc := []) (w1 := []) (wn := [(w9_6, .inr (7, [.long (lN a), .int (nI (wl a)), .long (lN (al a))]))]) (ws' := [(ce, .inl (cG, 121, .inl fc))]) [] hP hD rfl rfl hk1 hF hB1 hB2 rfl
  have hK : va_K D vwCl [(cG, .int)] s := hK.app (va_K.moved hvm.symm hB3)
  have hP : va_P D vwCl [(ce, .inl (cG, 121, .inl fc)), (w9_6, .inr (7, [.long (lN a), .int (nI (wl a)), .long (lN (al a))]))] H_2 := hP
  have hD : va_D A [(ce, .inl (cG, 121, .inl fc)), (w9_6, .inr (7, [.long (lN a), .int (nI (wl a)), .long (lN (al a))]))] := hD
  have hR := q_ro hR0 hna hS
  obtain ⟨rfl, hgw1⟩ := hr_1
  refine q_cvv (show va_rf (some w9_6) = .ref w9_6 from rfl) ?_
  refine lv_lload_n hx hb dX9_price_8 rfl (lv_at hl 2 rfl) ?_
  have hF := va_free (wc := []) hD hS hA [] rfl
  refine vx_callq (vx_runS (As := [.long (lN b)]) (rest := [.ref w9_6, .ref gg]) ⟨hx, hb, hml, hown, hts⟩ (c_X9_wordOf (l := l) (D := D) (a := b) (sz := H_2.size) (hnd := (q_nds (q_ndg (l1 := [ce, w9_6]) (l2 := [xo, gg, gr]) hD hnR hna rfl rfl) [] rfl rfl)) (hst := hst) (ha := hb9)) (va_cwS 1 hts gX9_price_X9_wordOf rfl rfl rfl (by decide +kernel) ⟨Nat.le_of_ble_eq_true rfl, Nat.le_of_ble_eq_true rfl⟩) ⟨qWx_blind, (qWx_of (q_Pof (fun _ h => absurd h List.not_mem_nil)) (q_Pof (fun _ h => absurd h List.not_mem_nil)) (hK.sub (tys' := []) [] rfl) hNw (qZ_at hZ hS (fun q h => hF q h)) hXt)⟩ rfl rfl hl.1 rfl (lv_room (Nat.le_of_ble_eq_true rfl)) dX9_price_9 ⟨Nat.le_of_ble_eq_true rfl, Nat.le_of_ble_eq_true rfl⟩) hS (fun q _ h => hF q h) hF (fun q _ h => hF q h) (fun E9 ce9 q9 u9 t9 H9 locs9 ht9 hvm9 hpx9 hBX9 hz9 hk9 hS9 hc9 hv9 hcl9 => ?_) (fun r_7 u_11 t_10 H_8 locs_9 ht hvm hr_7 hB hz1 hk1 hS => ?_)
  · obtain ⟨hE9, hW9⟩ := hBX9
    exact vx_out (fun x9 h9 => (htab x9 h9).elim) hlocks hc9 hv9 hcl9 (fun t8 ht8 hvm8 => ⟨(), trivial, ⟨⟨hE9.1, fun h9 => hE9.2 h9.2⟩, by show va_P D vwCl _ t8.heap; rw [ht8]; exact (va_P.sub (ws' := [(ce, .inl (cG, 121, .inl fc))]) (q_keepP hP hk9 q_A0) [0] rfl)⟩, ⟨by rw [ht8]; exact hS9.1, fun q8 a8 b8 => by rw [ht8]; exact hS9.2.1 q8 a8 b8⟩⟩) hS9.2.2 (Nat.le_of_ble_eq_true rfl) (Nat.le_of_ble_eq_true rfl)
  skip
  obtain ⟨w9_12, rfl⟩ : ∃ z, z = u_11 := ⟨_, rfl⟩
  obtain ⟨hB1, hB2, hB3⟩ := hB
  replace hB1 : va_P D vwCl ([] ++ [(w9_12, .inr (7, [.long (lN b), .int (nI (wl b)), .long (lN (al b))]))]) H_8 := by rw [← ht]; exact hB1
  obtain ⟨hP, hD⟩ := q_joinN (wc := []) (w1 := []) (wn := [(w9_12, .inr (7, [.long (lN b), .int (nI (wl b)), .long (lN (al b))]))]) (ws' := [(ce, .inl (cG, 121, .inl fc)), (w9_6, .inr (7, [.long (lN a), .int (nI (wl a)), .long (lN (al a))]))]) [] hP hD rfl rfl hk1 hF hB1 hB2 rfl
  have hK : va_K D vwCl [(cG, .int)] s := hK.app (va_K.moved hvm.symm hB3)
  have hP : va_P D vwCl [(ce, .inl (cG, 121, .inl fc)), (w9_6, .inr (7, [.long (lN a), .int (nI (wl a)), .long (lN (al a))])), (w9_12, .inr (7, [.long (lN b), .int (nI (wl b)), .long (lN (al b))]))] H_8 := hP
  have hD : va_D A [(ce, .inl (cG, 121, .inl fc)), (w9_6, .inr (7, [.long (lN a), .int (nI (wl a)), .long (lN (al a))])), (w9_12, .inr (7, [.long (lN b), .int (nI (wl b)), .long (lN (al b))]))] := hD
  have hR := q_ro hR0 hna hS
  obtain ⟨rfl, hgw2⟩ := hr_7
  refine q_cvv (show va_rf (some w9_12) = .ref w9_12 from rfl) ?_
  have hF := va_free (wc := [(ce, .inl (cG, 121, .inl fc))]) hD hS hA [0] rfl
  refine va_calli (va_runV (As := [.ref w9_6, .ref w9_12]) (rest := []) ⟨hx, hb, hml, hown, hts⟩ (c_X1_cheapest (l := l) (D := D) (g := gg) (gr := gr) (ce := ce) (cG := cG) (f := fc) (w := w9_6) (v := w9_12) (a := a) (b := b) (sz := H_8.size) (hnd := (q_nds (q_ndg (l1 := [ce, w9_6, w9_12]) (l2 := [xo, gg, gr]) hD hnR hna rfl rfl) [0, 4, 5, 1, 2] rfl rfl)) (hga := hgw1) (hgb := hgw2)) (cwV 2 hts gX9_price_X1_cheapest rfl rfl rfl (by decide +kernel) ⟨Nat.le_of_ble_eq_true rfl, Nat.le_of_ble_eq_true rfl⟩) ⟨qWz_blind, (va_recv hK hR (ci := 1) (q0 := 1) rfl rfl), (qWz_of (show va_P D vwCl [(gg, .inr (1, [.ref gr])), (gr, .inr (2, [.ref ce])), (w9_6, .inr (7, [.long (lN a), .int (nI (wl a)), .long (lN (al a))])), (w9_12, .inr (7, [.long (lN b), .int (nI (wl b)), .long (lN (al b))]))] _ from (va_P.app (hR.sub (ws' := [(gg, .inr (1, [.ref gr]))]) [1] rfl) (va_P.app (hR.sub (ws' := [(gr, .inr (2, [.ref ce]))]) [2] rfl) (va_P.app (hP.sub (ws' := [(w9_6, .inr (7, [.long (lN a), .int (nI (wl a)), .long (lN (al a))]))]) [1] rfl) (hP.sub (ws' := [(w9_12, .inr (7, [.long (lN b), .int (nI (wl b)), .long (lN (al b))]))]) [2] rfl))))) (hP.sub (ws' := [(ce, .inl (cG, 121, .inl fc))]) [0] rfl) (hK.sub (tys' := [(cG, .int)]) [0] rfl) hNw (qZ_at hZ hS (fun q h => hF q h)))⟩ rfl rfl hl.1 rfl (lv_room (Nat.le_of_ble_eq_true rfl)) dX9_price_12 ⟨Nat.le_of_ble_eq_true rfl, Nat.le_of_ble_eq_true rfl⟩) hS (fun q _ h => hF q h) hF (fun r_13 u_17 t_16 H_14 locs_15 ht hvm hr_13 hB hz1 hk1 hS => ?_)
  obtain ⟨f2_18, rfl⟩ : ∃ z, z = u_17 := ⟨_, rfl⟩
  replace hB : va_P D vwCl [(ce, .inl (cG, 121, .inl f2_18))] H_14 := by rw [← ht]; exact hB
  obtain ⟨hP, hD⟩ := q_join (wc := [(ce, .inl (cG, 121, .inl fc))]) (w1 := [(ce, .inl (cG, 121, .inl f2_18))]) (ws' := [(ce, .inl (cG, 121, .inl f2_18)), (w9_6, .inr (7, [.long (lN a), .int (nI (wl a)), .long (lN (al a))])), (w9_12, .inr (7, [.long (lN b), .int (nI (wl b)), .long (lN (al b))]))]) [0] hP hD rfl rfl hk1 hB rfl
  have hR := q_ro hR0 hna hS
  subst hr_13
  refine vx_ret ?_
  refine W.widen (k := 2) (n := 12) (Nat.le_of_ble_eq_true rfl) (Nat.le_of_ble_eq_true rfl) ?_
  exact W.iret (v := nI (pr (ltz a) (ltz b) (wl a) (wl b))) hx hb hr (fun t9 ht hW => ⟨⟨nI (pr (ltz a) (ltz b) (wl a) (wl b)), f2_18, rfl, ⟨rfl, ⟨hgw1, hgw2⟩⟩, by show va_P D vwCl _ t9.heap; rw [ht]; exact (va_P.sub (ws' := [(ce, .inl (cG, 121, .inl f2_18))]) hP [0] rfl)⟩, hS.F ht⟩) hS.2.2 dX9_price_15
