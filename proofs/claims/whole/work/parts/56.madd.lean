set_option maxRecDepth 20000 in
theorem iX10_plant_X10 : ∀ w ∈ wsX100, w ∈ wsX10_plant := by decide +kernel
set_option maxHeartbeats 4000000 in
set_option maxRecDepth 100000 in
/-- plant -/
theorem c_X10_plant (l : Launch) (D : va_G) (sz : Nat) (mo : Nat) (mw : Nat) (mct : Nat) (mp : Nat) (mnm : Nat) (m1 : Nat) (m2 : Nat) (mt : Nat) (mk : Nat) (mr : Nat) (ml : Nat) (mq : Nat) (k1 : ClassId) (k2 : ClassId) (k3 : ClassId) (k4 : ClassId) (k5 : ClassId) (k6 : ClassId) (k7 : ClassId) (th : Int32) (n : Nat) (om : Int32) (tm : Int32) (f1 : Nat → Int32) (f2 : Nat → Int32) (ft : Nat → Int32) (wd : Nat → Nat) (ct : Nat → Nat) (pa : Nat → Option Nat) (nm : Nat → Nat) (a : Nat) (hnd : ([mo, m1, m2, mt, mw, mct, mp, mnm] ++ []).Nodup) (hn9 : n < 40) (hga : gw a) (hgw : ∀ k, k < n → gw (wd k)) (hnb : ∀ k, k < n → nm k < 2 ^ 31) (hpn : ∀ k i, k < n → pa k = some i → i < k) (hun : ∀ i j q, i < n → j < n → pa i = some q → pa j = some q → nm i = nm j → i = j) : Met l yX10_plant wsX10_plant { frames := 4, cells := 0, slots := 0, locals := 100 } (va_Pc [.ref mo, .long (lN a)] (qW D sz ([]) [(mo, .inr (9, [.int th, .int (nI n), .ref mw, .ref mct, .ref mp, .ref mnm, .ref m1, .ref m2, .int om, .int tm, .ref mt, .ref mk, .ref mr, .ref ml, .ref mq])), (m1, .inl (k5, 11, .inl f1)), (m2, .inl (k6, 11, .inl f2)), (mt, .inl (k7, 121, .inl ft)), (mw, .inl (k1, 40, .inr (.inl (fun k9 => lN (wd k9))))), (mct, .inl (k2, 40, .inl (fun k9 => nI (ct k9)))), (mp, .inl (k3, 40, .inl (fun k9 => pin (pa k9)))), (mnm, .inl (k4, 40, .inl (fun k9 => nI (nm k9))))] [(k5, .int), (k6, .int), (k7, .int), (k1, .long), (k2, .int), (k3, .int), (k4, .int)])) (va_Qv (fun (uv : (Int32) × (Int32) × (Nat → Int32) × (Nat → Int32) × (Nat → Int32) × (Nat → Option Nat) × (Nat → Nat)) => (∀ k, k < n → uv.2.2.2.2.2.1 k = pa k) ∧ (∀ k, k ≠ n → uv.2.2.2.2.2.2 k = nm k) ∧ ((n = 0 ∧ uv.2.2.2.2.2.1 n = none ∧ uv.2.2.2.2.2.2 n = nm n) ∨ (0 < n ∧ uv.2.2.2.2.2.1 n = some (plw (chf wd pa nm a n) n 0) ∧ uv.2.2.2.2.2.2 n = dst wd a (plw (chf wd pa nm a n) n 0)))) (fun (uv : (Int32) × (Int32) × (Nat → Int32) × (Nat → Int32) × (Nat → Int32) × (Nat → Option Nat) × (Nat → Nat)) (tv : State) => va_P D vwCl [(mo, .inr (9, [.int th, .int (nI (n + 1)), .ref mw, .ref mct, .ref mp, .ref mnm, .ref m1, .ref m2, .int uv.1, .int uv.2.1, .ref mt, .ref mk, .ref mr, .ref ml, .ref mq])), (m1, .inl (k5, 11, .inl uv.2.2.1)), (m2, .inl (k6, 11, .inl uv.2.2.2.1)), (mt, .inl (k7, 121, .inl uv.2.2.2.2.1)), (mw, .inl (k1, 40, .inr (.inl (fun k9 => lN (va_up wd n a k9))))), (mct, .inl (k2, 40, .inl (fun k9 => nI (va_up ct n 0 k9)))), (mp, .inl (k3, 40, .inl (fun k9 => pin (uv.2.2.2.2.2.1 k9)))), (mnm, .inl (k4, 40, .inl (fun k9 => nI (uv.2.2.2.2.2.2 k9))))] tv.heap) (va_A [(mo, .inr (9, [.int th, .int (nI n), .ref mw, .ref mct, .ref mp, .ref mnm, .ref m1, .ref m2, .int om, .int tm, .ref mt, .ref mk, .ref mr, .ref ml, .ref mq])), (m1, .inl (k5, 11, .inl f1)), (m2, .inl (k6, 11, .inl f2)), (mt, .inl (k7, 121, .inl ft)), (mw, .inl (k1, 40, .inr (.inl (fun k9 => lN (wd k9))))), (mct, .inl (k2, 40, .inl (fun k9 => nI (ct k9)))), (mp, .inl (k3, 40, .inl (fun k9 => pin (pa k9)))), (mnm, .inl (k4, 40, .inl (fun k9 => nI (nm k9))))] sz)) 0 0 (va_A [(mo, .inr (9, [.int th, .int (nI n), .ref mw, .ref mct, .ref mp, .ref mnm, .ref m1, .ref m2, .int om, .int tm, .ref mt, .ref mk, .ref mr, .ref ml, .ref mq])), (m1, .inl (k5, 11, .inl f1)), (m2, .inl (k6, 11, .inl f2)), (mt, .inl (k7, 121, .inl ft)), (mw, .inl (k1, 40, .inr (.inl (fun k9 => lN (wd k9))))), (mct, .inl (k2, 40, .inl (fun k9 => nI (ct k9)))), (mp, .inl (k3, 40, .inl (fun k9 => pin (pa k9)))), (mnm, .inl (k4, 40, .inl (fun k9 => nI (nm k9))))] sz) := by
  refine Met.ofW (cc := cX10_plant) (maxL := 7) (ret := none) (by decide) rfl ?_
  intro pM eM s mi9 argsM belowM methM cM sM B hml hv
  obtain ⟨rfl, hsz, hR0, hP, hK, hNw⟩ := hv
  have hx := B.exec
  have hb := B.bytes
  have hr := B.returns
  have hts := atoms_spec (ws := wsX10_plant) B.pre
  have hown : s.vm.findClass RX10 = some mi9.cls := findClass_of_methodNamed B.named
  have hlocks := B.notSynchronized
  subst hsz
  have hna := q_na (RW := [(mo, .inr (9, [.int th, .int (nI n), .ref mw, .ref mct, .ref mp, .ref mnm, .ref m1, .ref m2, .int om, .int tm, .ref mt, .ref mk, .ref mr, .ref ml, .ref mq])), (m1, .inl (k5, 11, .inl f1)), (m2, .inl (k6, 11, .inl f2)), (mt, .inl (k7, 121, .inl ft)), (mw, .inl (k1, 40, .inr (.inl (fun k9 => lN (wd k9))))), (mct, .inl (k2, 40, .inl (fun k9 => nI (ct k9)))), (mp, .inl (k3, 40, .inl (fun k9 => pin (pa k9)))), (mnm, .inl (k4, 40, .inl (fun k9 => nI (nm k9))))]) (RO := []) hnd rfl rfl hR0
  have hD := q_D (RW := [(mo, .inr (9, [.int th, .int (nI n), .ref mw, .ref mct, .ref mp, .ref mnm, .ref m1, .ref m2, .int om, .int tm, .ref mt, .ref mk, .ref mr, .ref ml, .ref mq])), (m1, .inl (k5, 11, .inl f1)), (m2, .inl (k6, 11, .inl f2)), (mt, .inl (k7, 121, .inl ft)), (mw, .inl (k1, 40, .inr (.inl (fun k9 => lN (wd k9))))), (mct, .inl (k2, 40, .inl (fun k9 => nI (ct k9)))), (mp, .inl (k3, 40, .inl (fun k9 => pin (pa k9)))), (mnm, .inl (k4, 40, .inl (fun k9 => nI (nm k9))))]) (sz := s.heap.size) hnd rfl
  have hA : ∀ q : Nat, s.heap.size ≤ q → va_A [(mo, .inr (9, [.int th, .int (nI n), .ref mw, .ref mct, .ref mp, .ref mnm, .ref m1, .ref m2, .int om, .int tm, .ref mt, .ref mk, .ref mr, .ref ml, .ref mq])), (m1, .inl (k5, 11, .inl f1)), (m2, .inl (k6, 11, .inl f2)), (mt, .inl (k7, 121, .inl ft)), (mw, .inl (k1, 40, .inr (.inl (fun k9 => lN (wd k9))))), (mct, .inl (k2, 40, .inl (fun k9 => nI (ct k9)))), (mp, .inl (k3, 40, .inl (fun k9 => pin (pa k9)))), (mnm, .inl (k4, 40, .inl (fun k9 => nI (nm k9))))] s.heap.size q := fun q h => Or.inr h
  generalize hAe : va_A [(mo, .inr (9, [.int th, .int (nI n), .ref mw, .ref mct, .ref mp, .ref mnm, .ref m1, .ref m2, .int om, .int tm, .ref mt, .ref mk, .ref mr, .ref ml, .ref mq])), (m1, .inl (k5, 11, .inl f1)), (m2, .inl (k6, 11, .inl f2)), (mt, .inl (k7, 121, .inl ft)), (mw, .inl (k1, 40, .inr (.inl (fun k9 => lN (wd k9))))), (mct, .inl (k2, 40, .inl (fun k9 => nI (ct k9)))), (mp, .inl (k3, 40, .inl (fun k9 => pin (pa k9)))), (mnm, .inl (k4, 40, .inl (fun k9 => nI (nm k9))))] s.heap.size = A at hna hD hA ⊢
  have hS : va_S A s.heap s.heap [] := va_S.rf
  have hR := hR0
  have hP : va_P D vwCl [(mo, .inr (9, [.int th, .int (nI n), .ref mw, .ref mct, .ref mp, .ref mnm, .ref m1, .ref m2, .int om, .int tm, .ref mt, .ref mk, .ref mr, .ref ml, .ref mq])), (m1, .inl (k5, 11, .inl f1)), (m2, .inl (k6, 11, .inl f2)), (mt, .inl (k7, 121, .inl ft)), (mw, .inl (k1, 40, .inr (.inl (fun k9 => lN (wd k9))))), (mct, .inl (k2, 40, .inl (fun k9 => nI (ct k9)))), (mp, .inl (k3, 40, .inl (fun k9 => pin (pa k9)))), (mnm, .inl (k4, 40, .inl (fun k9 => nI (nm k9))))] s.heap := hP
  have hl := lv_entry ([.ref mo, .long (lN a)]) (n := 7) (Nat.le_of_ble_eq_true rfl)
  rw [lg_entry_eq]
  generalize (lg_sl ([.ref mo, .long (lN a)]) ++ List.replicate (7 - (lg_sl ([.ref mo, .long (lN a)])).length) Slot.unset).toArray = ls at hl ⊢
  have hl : lv_has ls 7 [(0, .ref mo), (1, .long (lN a))] := hl
  have hwa := gw_wl hga
  have hla := gw_lt hga
  have hC := chf_lt (wd := wd) (nm := nm) (a := a) (n := n) hpn
  refine lv_aload_n hx hb dX10_plant_0 rfl (lv_at hl 0 rfl) ?_
  refine va_get (D := D) (own := RX10) (ref := "FuzzyFensModel") (ci := 9) (v := .ref mw) (C := RX10) (T := TX10) (N := 15) hx hb hts iX10_plant_X10 hown hK hP 0 rfl rfl 2 (by decide) (hts (.fieldLink RX10 7 "FuzzyFensModel" "words" "[J") (List.mem_of_getElem? (i := 1) rfl)) (fun _ h9 => h9) rfl dX10_plant_1 ?_
  refine lv_aload_n hx hb dX10_plant_4 rfl (lv_at hl 0 rfl) ?_
  refine va_get (D := D) (own := RX10) (ref := "FuzzyFensModel") (ci := 9) (v := .int (nI n)) (C := RX10) (T := TX10) (N := 15) hx hb hts iX10_plant_X10 hown hK hP 0 rfl rfl 1 (by decide) (hts (.fieldLink RX10 77 "FuzzyFensModel" "many" "I") (List.mem_of_getElem? (i := 2) rfl)) (fun _ h9 => h9) rfl dX10_plant_5 ?_
  refine lv_lload_n hx hb dX10_plant_8 rfl (lv_at hl 1 rfl) ?_
  refine va_last (D := D) hx hb hK hP hD hS 4 3 rfl rfl (vp_in_nI (n := n) (N := 40) (by omega) (by decide)) dX10_plant_9 (fun H_1 locs_2 hP hD hS => ?_)
  rw [nI_clamp (n := n) (by omega)] at hP hD
  rw [q_upf_lN] at hP hD
  have hP : va_P D vwCl [(mo, .inr (9, [.int th, .int (nI n), .ref mw, .ref mct, .ref mp, .ref mnm, .ref m1, .ref m2, .int om, .int tm, .ref mt, .ref mk, .ref mr, .ref ml, .ref mq])), (m1, .inl (k5, 11, .inl f1)), (m2, .inl (k6, 11, .inl f2)), (mt, .inl (k7, 121, .inl ft)), (mw, .inl (k1, 40, .inr (.inl (fun k9 => lN ((va_up wd n a) k9))))), (mct, .inl (k2, 40, .inl (fun k9 => nI (ct k9)))), (mp, .inl (k3, 40, .inl (fun k9 => pin (pa k9)))), (mnm, .inl (k4, 40, .inl (fun k9 => nI (nm k9))))] H_1 := hP
  have hD : va_D A [(mo, .inr (9, [.int th, .int (nI n), .ref mw, .ref mct, .ref mp, .ref mnm, .ref m1, .ref m2, .int om, .int tm, .ref mt, .ref mk, .ref mr, .ref ml, .ref mq])), (m1, .inl (k5, 11, .inl f1)), (m2, .inl (k6, 11, .inl f2)), (mt, .inl (k7, 121, .inl ft)), (mw, .inl (k1, 40, .inr (.inl (fun k9 => lN ((va_up wd n a) k9))))), (mct, .inl (k2, 40, .inl (fun k9 => nI (ct k9)))), (mp, .inl (k3, 40, .inl (fun k9 => pin (pa k9)))), (mnm, .inl (k4, 40, .inl (fun k9 => nI (nm k9))))] := hD
  have hR := q_ro hR0 hna hS
  refine lv_aload_n hx hb dX10_plant_10 rfl (lv_at hl 0 rfl) ?_
  refine va_get (D := D) (own := RX10) (ref := "FuzzyFensModel") (ci := 9) (v := .ref mct) (C := RX10) (T := TX10) (N := 15) hx hb hts iX10_plant_X10 hown hK hP 0 rfl rfl 3 (by decide) (hts (.fieldLink RX10 13 "FuzzyFensModel" "counts" "[I") (List.mem_of_getElem? (i := 3) rfl)) (fun _ h9 => h9) rfl dX10_plant_11 ?_
  refine lv_aload_n hx hb dX10_plant_14 rfl (lv_at hl 0 rfl) ?_
  refine va_get (D := D) (own := RX10) (ref := "FuzzyFensModel") (ci := 9) (v := .int (nI n)) (C := RX10) (T := TX10) (N := 15) hx hb hts iX10_plant_X10 hown hK hP 0 rfl rfl 1 (by decide) (hts (.fieldLink RX10 77 "FuzzyFensModel" "many" "I") (List.mem_of_getElem? (i := 2) rfl)) (fun _ h9 => h9) rfl dX10_plant_15 ?_
  refine lv_iconst (v := nI 0) hx hb dX10_plant_18 (by decide) ?_
  refine va_iast (D := D) hx hb hK hP hD hS 5 4 rfl rfl (vp_in_nI (n := n) (N := 40) (by omega) (by decide)) dX10_plant_19 (fun H_3 locs_4 hP hD hS => ?_)
  rw [nI_clamp (n := n) (by omega)] at hP hD
  rw [q_upf_nI] at hP hD
  have hP : va_P D vwCl [(mo, .inr (9, [.int th, .int (nI n), .ref mw, .ref mct, .ref mp, .ref mnm, .ref m1, .ref m2, .int om, .int tm, .ref mt, .ref mk, .ref mr, .ref ml, .ref mq])), (m1, .inl (k5, 11, .inl f1)), (m2, .inl (k6, 11, .inl f2)), (mt, .inl (k7, 121, .inl ft)), (mw, .inl (k1, 40, .inr (.inl (fun k9 => lN ((va_up wd n a) k9))))), (mct, .inl (k2, 40, .inl (fun k9 => nI ((va_up ct n 0) k9)))), (mp, .inl (k3, 40, .inl (fun k9 => pin (pa k9)))), (mnm, .inl (k4, 40, .inl (fun k9 => nI (nm k9))))] H_3 := hP
  have hD : va_D A [(mo, .inr (9, [.int th, .int (nI n), .ref mw, .ref mct, .ref mp, .ref mnm, .ref m1, .ref m2, .int om, .int tm, .ref mt, .ref mk, .ref mr, .ref ml, .ref mq])), (m1, .inl (k5, 11, .inl f1)), (m2, .inl (k6, 11, .inl f2)), (mt, .inl (k7, 121, .inl ft)), (mw, .inl (k1, 40, .inr (.inl (fun k9 => lN ((va_up wd n a) k9))))), (mct, .inl (k2, 40, .inl (fun k9 => nI ((va_up ct n 0) k9)))), (mp, .inl (k3, 40, .inl (fun k9 => pin (pa k9)))), (mnm, .inl (k4, 40, .inl (fun k9 => nI (nm k9))))] := hD
  have hR := q_ro hR0 hna hS
  refine lv_aload_n hx hb dX10_plant_20 rfl (lv_at hl 0 rfl) ?_
  refine va_get (D := D) (own := RX10) (ref := "FuzzyFensModel") (ci := 9) (v := .ref mp) (C := RX10) (T := TX10) (N := 15) hx hb hts iX10_plant_X10 hown hK hP 0 rfl rfl 4 (by decide) (hts (.fieldLink RX10 17 "FuzzyFensModel" "parents" "[I") (List.mem_of_getElem? (i := 4) rfl)) (fun _ h9 => h9) rfl dX10_plant_21 ?_
  refine lv_aload_n hx hb dX10_plant_24 rfl (lv_at hl 0 rfl) ?_
  refine va_get (D := D) (own := RX10) (ref := "FuzzyFensModel") (ci := 9) (v := .int (nI n)) (C := RX10) (T := TX10) (N := 15) hx hb hts iX10_plant_X10 hown hK hP 0 rfl rfl 1 (by decide) (hts (.fieldLink RX10 77 "FuzzyFensModel" "many" "I") (List.mem_of_getElem? (i := 2) rfl)) (fun _ h9 => h9) rfl dX10_plant_25 ?_
  refine lv_iconst (v := (-1)) hx hb dX10_plant_28 (by decide) ?_
  refine va_iast (D := D) hx hb hK hP hD hS 6 5 rfl rfl (vp_in_nI (n := n) (N := 40) (by omega) (by decide)) dX10_plant_29 (fun H_5 locs_6 hP hD hS => ?_)
  rw [nI_clamp (n := n) (by omega)] at hP hD
  rw [q_upf_pinN] at hP hD
  have hP : va_P D vwCl [(mo, .inr (9, [.int th, .int (nI n), .ref mw, .ref mct, .ref mp, .ref mnm, .ref m1, .ref m2, .int om, .int tm, .ref mt, .ref mk, .ref mr, .ref ml, .ref mq])), (m1, .inl (k5, 11, .inl f1)), (m2, .inl (k6, 11, .inl f2)), (mt, .inl (k7, 121, .inl ft)), (mw, .inl (k1, 40, .inr (.inl (fun k9 => lN ((va_up wd n a) k9))))), (mct, .inl (k2, 40, .inl (fun k9 => nI ((va_up ct n 0) k9)))), (mp, .inl (k3, 40, .inl (fun k9 => pin ((va_up pa n none) k9)))), (mnm, .inl (k4, 40, .inl (fun k9 => nI (nm k9))))] H_5 := hP
  have hD : va_D A [(mo, .inr (9, [.int th, .int (nI n), .ref mw, .ref mct, .ref mp, .ref mnm, .ref m1, .ref m2, .int om, .int tm, .ref mt, .ref mk, .ref mr, .ref ml, .ref mq])), (m1, .inl (k5, 11, .inl f1)), (m2, .inl (k6, 11, .inl f2)), (mt, .inl (k7, 121, .inl ft)), (mw, .inl (k1, 40, .inr (.inl (fun k9 => lN ((va_up wd n a) k9))))), (mct, .inl (k2, 40, .inl (fun k9 => nI ((va_up ct n 0) k9)))), (mp, .inl (k3, 40, .inl (fun k9 => pin ((va_up pa n none) k9)))), (mnm, .inl (k4, 40, .inl (fun k9 => nI (nm k9))))] := hD
  have hR := q_ro hR0 hna hS
  refine lv_aload_n hx hb dX10_plant_30 rfl (lv_at hl 0 rfl) ?_
  refine va_get (D := D) (own := RX10) (ref := "FuzzyFensModel") (ci := 9) (v := .int (nI n)) (C := RX10) (T := TX10) (N := 15) hx hb hts iX10_plant_X10 hown hK hP 0 rfl rfl 1 (by decide) (hts (.fieldLink RX10 77 "FuzzyFensModel" "many" "I") (List.mem_of_getElem? (i := 2) rfl)) (fun _ h9 => h9) rfl dX10_plant_31 ?_
  refine q_cut 42 (fun (x : (Option Nat)) (Hc : Heap) (Lc : List Loc) (ls : Array Slot) (st : List Value) => match x with | y9 => ((n = 0 ∧ y9 = none) ∨ (0 < n ∧ y9 = some 0)) ∧ H_5 = Hc ∧ locs_6 = Lc ∧ lv_has ls 7 [(0, .ref mo), (1, .long (lN a))] ∧ [.int (pin y9)] = st) ?_ ?_
  · clear hl
    rintro y9 Hc Lc ls st hI
    obtain ⟨hy9, rfl, rfl, hl, rfl⟩ := hI
    refine lv_istore_n (lv' := [(3, .int (pin y9)), (0, .ref mo), (1, .long (lN a))]) hx hb dX10_plant_42 rfl hl (by decide) rfl (fun ls hl => ?_)
    refine q_loop (fun (x : (Option Nat) × (Nat → Option Nat) × (Nat → Nat) × (Int32) × (Int32) × (Nat → Int32) × (Nat → Int32) × (Nat → Int32)) (H : Heap) (locs : List Loc) (ls : Array Slot) => match x with | (y, p1, nq1, oa, ta, u1, u2, u3) => (∀ q, y = some q → q < n ∧ plw (chf wd pa nm a n) n q = plw (chf wd pa nm a n) n 0) ∧ (y = none → (n = 0 ∧ p1 n = none ∧ nq1 n = nm n) ∨ (0 < n ∧ p1 n = some (plw (chf wd pa nm a n) n 0) ∧ nq1 n = dst wd a (plw (chf wd pa nm a n) n 0))) ∧ (∀ k, k < n → p1 k = pa k) ∧ (∀ k, k ≠ n → nq1 k = nm k) ∧ va_P D vwCl [(mo, .inr (9, [.int th, .int (nI n), .ref mw, .ref mct, .ref mp, .ref mnm, .ref m1, .ref m2, .int oa, .int ta, .ref mt, .ref mk, .ref mr, .ref ml, .ref mq])), (m1, .inl (k5, 11, .inl u1)), (m2, .inl (k6, 11, .inl u2)), (mt, .inl (k7, 121, .inl u3)), (mw, .inl (k1, 40, .inr (.inl (fun k9 => lN ((va_up wd n a) k9))))), (mct, .inl (k2, 40, .inl (fun k9 => nI ((va_up ct n 0) k9)))), (mp, .inl (k3, 40, .inl (fun k9 => pin (p1 k9)))), (mnm, .inl (k4, 40, .inl (fun k9 => nI (nq1 k9))))] H ∧ va_D A [(mo, .inr (9, [.int th, .int (nI n), .ref mw, .ref mct, .ref mp, .ref mnm, .ref m1, .ref m2, .int oa, .int ta, .ref mt, .ref mk, .ref mr, .ref ml, .ref mq])), (m1, .inl (k5, 11, .inl u1)), (m2, .inl (k6, 11, .inl u2)), (mt, .inl (k7, 121, .inl u3)), (mw, .inl (k1, 40, .inr (.inl (fun k9 => lN ((va_up wd n a) k9))))), (mct, .inl (k2, 40, .inl (fun k9 => nI ((va_up ct n 0) k9)))), (mp, .inl (k3, 40, .inl (fun k9 => pin (p1 k9)))), (mnm, .inl (k4, 40, .inl (fun k9 => nI (nq1 k9))))] ∧ va_S A s.heap H locs ∧ lv_has ls 7 [(3, .int (pin y)), (0, .ref mo), (1, .long (lN a))]) (fun (x : (Option Nat) × (Nat → Option Nat) × (Nat → Nat) × (Int32) × (Int32) × (Nat → Int32) × (Nat → Int32) × (Nat → Int32)) => match x with | (y, p1, nq1, oa, ta, u1, u2, u3) => plm n y) (y9, (va_up pa n none), nm, om, tm, f1, f2, ft) ⟨(by intro q hq; rcases hy9 with ⟨_, e⟩ | ⟨h0, e⟩; (rw [e] at hq; exact nomatch hq); (rw [e] at hq; cases hq; exact ⟨h0, rfl⟩)), (fun hn => by rcases hy9 with ⟨h0, e⟩ | ⟨h0, e⟩; (exact Or.inl ⟨h0, q_ups, rfl⟩); (rw [e] at hn; exact nomatch hn)), (fun k hk => q_upn (by omega)), (fun k hk => rfl), hP, hD, hS, (lv_sub hl [0, 1, 2] rfl)⟩ ?_
    clear hl
    clear hP hD hS
    rintro ⟨y, p1, nq1, oa, ta, u1, u2, u3⟩ H locs ls hI ih_43
    obtain ⟨hy1, hy2, hp1, hm1, hP, hD, hS, hl⟩ := hI
    have hR := q_ro hR0 hna hS
    refine lv_iload_n hx hb dX10_plant_43 rfl (lv_at hl 0 rfl) ?_
    refine lv_iconst (v := (-1)) hx hb dX10_plant_44 (by decide) ?_
    refine q_pin_eq (o := y) (tgt := 141) hx hb dX10_plant_45 (by decide) (fun i9 h9 => by have := (hy1 _ h9).1; omega) (fun c_45 => ?_) (fun q5 c_45 => ?_)
    · skip
      have hl : lv_has ls 7 [(3, .int ((-1))), (0, .ref mo), (1, .long (lN a))] := by rw [c_45] at hl; exact hl
      refine lv_aload_n hx hb dX10_plant_141 rfl (lv_at hl 1 rfl) ?_
      refine lv_dup hx hb dX10_plant_142 rfl ?_
      refine va_get (D := D) (own := RX10) (ref := "FuzzyFensModel") (ci := 9) (v := .int (nI n)) (C := RX10) (T := TX10) (N := 15) hx hb hts iX10_plant_X10 hown hK hP 0 rfl rfl 1 (by decide) (hts (.fieldLink RX10 77 "FuzzyFensModel" "many" "I") (List.mem_of_getElem? (i := 2) rfl)) (fun _ h9 => h9) rfl dX10_plant_143 ?_
      refine lv_iconst (v := nI 1) hx hb dX10_plant_146 (by decide) ?_
      refine q_iadd (d := n + 1) hx hb dX10_plant_147 (by omega) ?_
      refine va_put (D := D) (ci := 9) (v := .int (nI (n + 1))) (ty := .int) (C := RX10) (T := TX10) (N := 15) hx hb hts iX10_plant_X10 tyX10 tyX10_ok nmX10 hown hK hP hD hS 0 rfl rfl 1 (by decide) (hts (.fieldLink RX10 77 "FuzzyFensModel" "many" "I") (List.mem_of_getElem? (i := 2) rfl)) (fun _ h9 => h9) rfl (by decide +kernel) rfl rfl (Nat.le_of_ble_eq_true rfl) dX10_plant_148 (fun H_7 locs_8 hP hD hS => ?_)
      have hP : va_P D vwCl [(mo, .inr (9, [.int th, .int (nI (n + 1)), .ref mw, .ref mct, .ref mp, .ref mnm, .ref m1, .ref m2, .int oa, .int ta, .ref mt, .ref mk, .ref mr, .ref ml, .ref mq])), (m1, .inl (k5, 11, .inl u1)), (m2, .inl (k6, 11, .inl u2)), (mt, .inl (k7, 121, .inl u3)), (mw, .inl (k1, 40, .inr (.inl (fun k9 => lN ((va_up wd n a) k9))))), (mct, .inl (k2, 40, .inl (fun k9 => nI ((va_up ct n 0) k9)))), (mp, .inl (k3, 40, .inl (fun k9 => pin (p1 k9)))), (mnm, .inl (k4, 40, .inl (fun k9 => nI (nq1 k9))))] H_7 := hP
      have hD : va_D A [(mo, .inr (9, [.int th, .int (nI (n + 1)), .ref mw, .ref mct, .ref mp, .ref mnm, .ref m1, .ref m2, .int oa, .int ta, .ref mt, .ref mk, .ref mr, .ref ml, .ref mq])), (m1, .inl (k5, 11, .inl u1)), (m2, .inl (k6, 11, .inl u2)), (mt, .inl (k7, 121, .inl u3)), (mw, .inl (k1, 40, .inr (.inl (fun k9 => lN ((va_up wd n a) k9))))), (mct, .inl (k2, 40, .inl (fun k9 => nI ((va_up ct n 0) k9)))), (mp, .inl (k3, 40, .inl (fun k9 => pin (p1 k9)))), (mnm, .inl (k4, 40, .inl (fun k9 => nI (nq1 k9))))] := hD
      have hR := q_ro hR0 hna hS
      exact W.vret hx hb hr (fun t9 ht hW => ⟨⟨(oa, ta, u1, u2, u3, p1, nq1), rfl, ⟨hp1, hm1, (hy2 c_45)⟩, by show va_P D vwCl _ t9.heap; rw [ht]; exact hP⟩, hS.F ht⟩) hS.2.2 dX10_plant_151
    · skip
      have hq := hy1 _ c_45
      have hwq := gw_wl (hgw q5 hq.1)
      have hlq := gw_lt (hgw q5 hq.1)
      have hl : lv_has ls 7 [(3, .int (nI q5)), (0, .ref mo), (1, .long (lN a))] := by rw [c_45] at hl; exact hl
      refine lv_aload_n hx hb dX10_plant_48 rfl (lv_at hl 1 rfl) ?_
      refine lv_lload_n hx hb dX10_plant_49 rfl (lv_at hl 2 rfl) ?_
      refine lv_aload_n hx hb dX10_plant_50 rfl (lv_at hl 1 rfl) ?_
      refine va_get (D := D) (own := RX10) (ref := "FuzzyFensModel") (ci := 9) (v := .ref mw) (C := RX10) (T := TX10) (N := 15) hx hb hts iX10_plant_X10 hown hK hP 0 rfl rfl 2 (by decide) (hts (.fieldLink RX10 7 "FuzzyFensModel" "words" "[J") (List.mem_of_getElem? (i := 1) rfl)) (fun _ h9 => h9) rfl dX10_plant_51 ?_
      refine lv_iload_n hx hb dX10_plant_54 rfl (lv_at hl 0 rfl) ?_
      refine va_lald (D := D) hx hb hK hP 4 3 rfl rfl (vp_in_nI (n := q5) (N := 40) (by omega) (by decide)) dX10_plant_55 ?_
      rw [nI_clamp (n := q5) (by omega)]
      refine q_cvl (show (fun k9 => lN ((va_up wd n a) k9)) q5 = lN ((va_up wd n a) q5) from rfl) ?_
      refine q_cvl (show (lN ((va_up wd n a) q5)) = (lN (wd q5)) from (by rw [q_upn (by omega)])) ?_
      have hF := va_free (wc := [(mo, .inr (9, [.int th, .int (nI n), .ref mw, .ref mct, .ref mp, .ref mnm, .ref m1, .ref m2, .int oa, .int ta, .ref mt, .ref mk, .ref mr, .ref ml, .ref mq])), (m1, .inl (k5, 11, .inl u1)), (m2, .inl (k6, 11, .inl u2)), (mt, .inl (k7, 121, .inl u3))]) hD hS hA [0, 1, 2, 3] rfl
      refine va_calli (va_runV (As := [.long (lN a), .long (lN (wd q5))]) (rest := []) ⟨hx, hb, hml, hown, hts⟩ (c_X10_apart (l := l) (D := D) (mo := mo) (mw := mw) (mct := mct) (mp := mp) (mnm := mnm) (m1 := m1) (m2 := m2) (mt := mt) (mk := mk) (mr := mr) (ml := ml) (mq := mq) (k5 := k5) (k6 := k6) (k7 := k7) (th := th) (n := n) (om := oa) (tm := ta) (f1 := u1) (f2 := u2) (ft := u3) (a := a) (b := wd q5) (sz := H.size) (hnd := (q_nds hnd [0, 1, 2, 3] rfl rfl)) (hwa := hwa) (hwb := hwq) (hla := by omega) (hlb := by omega)) (cwV 2 hts gX10_plant_X10_apart rfl rfl rfl (by decide +kernel) ⟨Nat.le_of_ble_eq_true rfl, Nat.le_of_ble_eq_true rfl⟩) ⟨qW_blind, (va_recv hK hP (ci := 9) (q0 := 0) rfl rfl), (qW_of (q_Pof (fun _ h => absurd h List.not_mem_nil)) (hP.sub (ws' := [(mo, .inr (9, [.int th, .int (nI n), .ref mw, .ref mct, .ref mp, .ref mnm, .ref m1, .ref m2, .int oa, .int ta, .ref mt, .ref mk, .ref mr, .ref ml, .ref mq])), (m1, .inl (k5, 11, .inl u1)), (m2, .inl (k6, 11, .inl u2)), (mt, .inl (k7, 121, .inl u3))]) [0, 1, 2, 3] rfl) (hK.sub (tys' := [(k5, .int), (k6, .int), (k7, .int)]) [0, 1, 2] rfl) hNw)⟩ rfl rfl hl.1 rfl (lv_room (Nat.le_of_ble_eq_true rfl)) dX10_plant_56 ⟨Nat.le_of_ble_eq_true rfl, Nat.le_of_ble_eq_true rfl⟩) hS (fun q _ h => hF q h) hF (fun r_9 u_13 t_12 H_10 locs_11 ht hvm hr_9 hB hz1 hk1 hS => ?_)
      obtain ⟨g1_14, g2_15, g3_16⟩ := u_13
      dsimp only at hr_9 hB
      replace hB : va_P D vwCl [(mo, .inr (9, [.int th, .int (nI n), .ref mw, .ref mct, .ref mp, .ref mnm, .ref m1, .ref m2, .int (nI (wl a)), .int (nI (wl (wd q5))), .ref mt, .ref mk, .ref mr, .ref ml, .ref mq])), (m1, .inl (k5, 11, .inl g1_14)), (m2, .inl (k6, 11, .inl g2_15)), (mt, .inl (k7, 121, .inl g3_16))] H_10 := by rw [← ht]; exact hB
      obtain ⟨hP, hD⟩ := q_join (wc := [(mo, .inr (9, [.int th, .int (nI n), .ref mw, .ref mct, .ref mp, .ref mnm, .ref m1, .ref m2, .int oa, .int ta, .ref mt, .ref mk, .ref mr, .ref ml, .ref mq])), (m1, .inl (k5, 11, .inl u1)), (m2, .inl (k6, 11, .inl u2)), (mt, .inl (k7, 121, .inl u3))]) (w1 := [(mo, .inr (9, [.int th, .int (nI n), .ref mw, .ref mct, .ref mp, .ref mnm, .ref m1, .ref m2, .int (nI (wl a)), .int (nI (wl (wd q5))), .ref mt, .ref mk, .ref mr, .ref ml, .ref mq])), (m1, .inl (k5, 11, .inl g1_14)), (m2, .inl (k6, 11, .inl g2_15)), (mt, .inl (k7, 121, .inl g3_16))]) (ws' := [(mo, .inr (9, [.int th, .int (nI n), .ref mw, .ref mct, .ref mp, .ref mnm, .ref m1, .ref m2, .int (nI (wl a)), .int (nI (wl (wd q5))), .ref mt, .ref mk, .ref mr, .ref ml, .ref mq])), (m1, .inl (k5, 11, .inl g1_14)), (m2, .inl (k6, 11, .inl g2_15)), (mt, .inl (k7, 121, .inl g3_16)), (mw, .inl (k1, 40, .inr (.inl (fun k9 => lN ((va_up wd n a) k9))))), (mct, .inl (k2, 40, .inl (fun k9 => nI ((va_up ct n 0) k9)))), (mp, .inl (k3, 40, .inl (fun k9 => pin (p1 k9)))), (mnm, .inl (k4, 40, .inl (fun k9 => nI (nq1 k9))))]) [0, 1, 2, 3] hP hD rfl rfl hk1 hB rfl
      have hR := q_ro hR0 hna hS
      subst hr_9
      refine q_cvi (show (nI (lev (ltz a) (ltz (wd q5)) (wl a) (wl (wd q5)))) = (nI (dst wd a q5)) from rfl) ?_
      have hd20 := dst_20 (wd := wd) hwa hwq
      refine lv_istore (lv' := [(4, .int (nI (dst wd a q5))), (3, .int (nI q5)), (0, .ref mo), (1, .long (lN a))]) hx hb dX10_plant_59 hl (by decide) rfl (fun ls hl => ?_)
      refine lv_iconst (v := (-1)) hx hb dX10_plant_61 (by decide) ?_
      refine lv_istore (lv' := [(5, .int ((-1))), (4, .int (nI (dst wd a q5))), (3, .int (nI q5)), (0, .ref mo), (1, .long (lN a))]) hx hb dX10_plant_62 hl (by decide) rfl (fun ls hl => ?_)
      refine lv_iconst (v := nI 0) hx hb dX10_plant_64 (by decide) ?_
      refine lv_istore (lv' := [(6, .int (nI 0)), (5, .int ((-1))), (4, .int (nI (dst wd a q5))), (3, .int (nI q5)), (0, .ref mo), (1, .long (lN a))]) hx hb dX10_plant_65 hl (by decide) rfl (fun ls hl => ?_)
      refine q_loop (fun (x : (Nat)) (Hc : Heap) (Lc : List Loc) (ls : Array Slot) => match x with | k => (k ≤ n) ∧ H_10 = Hc ∧ locs_11 = Lc ∧ lv_has ls 7 [(6, .int (nI k)), (5, .int (pin (ffi (fun k => decide (pa k = some q5 ∧ nm k = dst wd a q5)) k))), (4, .int (nI (dst wd a q5))), (3, .int (nI q5)), (0, .ref mo), (1, .long (lN a))]) (fun (x : (Nat)) => match x with | k => n - k) 0 ⟨(by omega), rfl, rfl, (lv_sub hl [0, 1, 2, 3, 4, 5] rfl)⟩ ?_
      clear hl
      rintro k Hc Lc ls hI ih_67
      obtain ⟨hk9, rfl, rfl, hl⟩ := hI
      refine lv_iload hx hb dX10_plant_67 (lv_at hl 0 rfl) ?_
      refine lv_aload_n hx hb dX10_plant_69 rfl (lv_at hl 4 rfl) ?_
      refine va_get (D := D) (own := RX10) (ref := "FuzzyFensModel") (ci := 9) (v := .int (nI n)) (C := RX10) (T := TX10) (N := 15) hx hb hts iX10_plant_X10 hown hK hP 0 rfl rfl 1 (by decide) (hts (.fieldLink RX10 77 "FuzzyFensModel" "many" "I") (List.mem_of_getElem? (i := 2) rfl)) (fun _ h9 => h9) rfl dX10_plant_70 ?_
      refine q_icmp_ge (a := k) (b := n) (tgt := 114) hx hb dX10_plant_73 (by decide) (by omega) (by omega) (fun c_73 => ?_) (fun c_73 => ?_)
      · skip
        refine lv_aload_n hx hb dX10_plant_114 rfl (lv_at hl 4 rfl) ?_
        refine va_get (D := D) (own := RX10) (ref := "FuzzyFensModel") (ci := 9) (v := .ref mp) (C := RX10) (T := TX10) (N := 15) hx hb hts iX10_plant_X10 hown hK hP 0 rfl rfl 4 (by decide) (hts (.fieldLink RX10 17 "FuzzyFensModel" "parents" "[I") (List.mem_of_getElem? (i := 4) rfl)) (fun _ h9 => h9) rfl dX10_plant_115 ?_
        refine lv_aload_n hx hb dX10_plant_118 rfl (lv_at hl 4 rfl) ?_
        refine va_get (D := D) (own := RX10) (ref := "FuzzyFensModel") (ci := 9) (v := .int (nI n)) (C := RX10) (T := TX10) (N := 15) hx hb hts iX10_plant_X10 hown hK hP 0 rfl rfl 1 (by decide) (hts (.fieldLink RX10 77 "FuzzyFensModel" "many" "I") (List.mem_of_getElem? (i := 2) rfl)) (fun _ h9 => h9) rfl dX10_plant_119 ?_
        refine lv_iload_n hx hb dX10_plant_122 rfl (lv_at hl 3 rfl) ?_
        refine va_iast (D := D) hx hb hK hP hD hS 6 5 rfl rfl (vp_in_nI (n := n) (N := 40) (by omega) (by decide)) dX10_plant_123 (fun H_17 locs_18 hP hD hS => ?_)
        rw [nI_clamp (n := n) (by omega)] at hP hD
        rw [q_upf_pinS] at hP hD
        have hP : va_P D vwCl [(mo, .inr (9, [.int th, .int (nI n), .ref mw, .ref mct, .ref mp, .ref mnm, .ref m1, .ref m2, .int (nI (wl a)), .int (nI (wl (wd q5))), .ref mt, .ref mk, .ref mr, .ref ml, .ref mq])), (m1, .inl (k5, 11, .inl g1_14)), (m2, .inl (k6, 11, .inl g2_15)), (mt, .inl (k7, 121, .inl g3_16)), (mw, .inl (k1, 40, .inr (.inl (fun k9 => lN ((va_up wd n a) k9))))), (mct, .inl (k2, 40, .inl (fun k9 => nI ((va_up ct n 0) k9)))), (mp, .inl (k3, 40, .inl (fun k9 => pin ((va_up p1 n (some q5)) k9)))), (mnm, .inl (k4, 40, .inl (fun k9 => nI (nq1 k9))))] H_17 := hP
        have hD : va_D A [(mo, .inr (9, [.int th, .int (nI n), .ref mw, .ref mct, .ref mp, .ref mnm, .ref m1, .ref m2, .int (nI (wl a)), .int (nI (wl (wd q5))), .ref mt, .ref mk, .ref mr, .ref ml, .ref mq])), (m1, .inl (k5, 11, .inl g1_14)), (m2, .inl (k6, 11, .inl g2_15)), (mt, .inl (k7, 121, .inl g3_16)), (mw, .inl (k1, 40, .inr (.inl (fun k9 => lN ((va_up wd n a) k9))))), (mct, .inl (k2, 40, .inl (fun k9 => nI ((va_up ct n 0) k9)))), (mp, .inl (k3, 40, .inl (fun k9 => pin ((va_up p1 n (some q5)) k9)))), (mnm, .inl (k4, 40, .inl (fun k9 => nI (nq1 k9))))] := hD
        have hR := q_ro hR0 hna hS
        refine lv_aload_n hx hb dX10_plant_124 rfl (lv_at hl 4 rfl) ?_
        refine va_get (D := D) (own := RX10) (ref := "FuzzyFensModel") (ci := 9) (v := .ref mnm) (C := RX10) (T := TX10) (N := 15) hx hb hts iX10_plant_X10 hown hK hP 0 rfl rfl 5 (by decide) (hts (.fieldLink RX10 20 "FuzzyFensModel" "numbers" "[I") (List.mem_of_getElem? (i := 5) rfl)) (fun _ h9 => h9) rfl dX10_plant_125 ?_
        refine lv_aload_n hx hb dX10_plant_128 rfl (lv_at hl 4 rfl) ?_
        refine va_get (D := D) (own := RX10) (ref := "FuzzyFensModel") (ci := 9) (v := .int (nI n)) (C := RX10) (T := TX10) (N := 15) hx hb hts iX10_plant_X10 hown hK hP 0 rfl rfl 1 (by decide) (hts (.fieldLink RX10 77 "FuzzyFensModel" "many" "I") (List.mem_of_getElem? (i := 2) rfl)) (fun _ h9 => h9) rfl dX10_plant_129 ?_
        refine lv_iload hx hb dX10_plant_132 (lv_at hl 2 rfl) ?_
        refine va_iast (D := D) hx hb hK hP hD hS 7 6 rfl rfl (vp_in_nI (n := n) (N := 40) (by omega) (by decide)) dX10_plant_134 (fun H_19 locs_20 hP hD hS => ?_)
        rw [nI_clamp (n := n) (by omega)] at hP hD
        rw [q_upf_nI] at hP hD
        have hP : va_P D vwCl [(mo, .inr (9, [.int th, .int (nI n), .ref mw, .ref mct, .ref mp, .ref mnm, .ref m1, .ref m2, .int (nI (wl a)), .int (nI (wl (wd q5))), .ref mt, .ref mk, .ref mr, .ref ml, .ref mq])), (m1, .inl (k5, 11, .inl g1_14)), (m2, .inl (k6, 11, .inl g2_15)), (mt, .inl (k7, 121, .inl g3_16)), (mw, .inl (k1, 40, .inr (.inl (fun k9 => lN ((va_up wd n a) k9))))), (mct, .inl (k2, 40, .inl (fun k9 => nI ((va_up ct n 0) k9)))), (mp, .inl (k3, 40, .inl (fun k9 => pin ((va_up p1 n (some q5)) k9)))), (mnm, .inl (k4, 40, .inl (fun k9 => nI ((va_up nq1 n (dst wd a q5)) k9))))] H_19 := hP
        have hD : va_D A [(mo, .inr (9, [.int th, .int (nI n), .ref mw, .ref mct, .ref mp, .ref mnm, .ref m1, .ref m2, .int (nI (wl a)), .int (nI (wl (wd q5))), .ref mt, .ref mk, .ref mr, .ref ml, .ref mq])), (m1, .inl (k5, 11, .inl g1_14)), (m2, .inl (k6, 11, .inl g2_15)), (mt, .inl (k7, 121, .inl g3_16)), (mw, .inl (k1, 40, .inr (.inl (fun k9 => lN ((va_up wd n a) k9))))), (mct, .inl (k2, 40, .inl (fun k9 => nI ((va_up ct n 0) k9)))), (mp, .inl (k3, 40, .inl (fun k9 => pin ((va_up p1 n (some q5)) k9)))), (mnm, .inl (k4, 40, .inl (fun k9 => nI ((va_up nq1 n (dst wd a q5)) k9))))] := hD
        have hR := q_ro hR0 hna hS
        refine lv_iload hx hb dX10_plant_135 (lv_at hl 1 rfl) ?_
        refine lv_istore_n (lv' := [(3, .int (pin (ffi (fun k => decide (pa k = some q5 ∧ nm k = dst wd a q5)) k))), (6, .int (nI k)), (5, .int (pin (ffi (fun k => decide (pa k = some q5 ∧ nm k = dst wd a q5)) k))), (4, .int (nI (dst wd a q5))), (0, .ref mo), (1, .long (lN a))]) hx hb dX10_plant_137 rfl hl (by decide) rfl (fun ls hl => ?_)
        refine lv_goto (tgt := 43) hx hb dX10_plant_138 (by decide) ?_
        have ekn : k = n := by omega
        rw [ekn] at hl
        exact ih_43 (chf wd pa nm a n q5, (va_up p1 n (some q5)), (va_up nq1 n (dst wd a q5)), nI (wl a), nI (wl (wd q5)), g1_14, g2_15, g3_16) _ _ _ ⟨(fun c9 h9 => ⟨(hC _ _ h9).2, (plw_go hC h9).trans hq.2⟩), (fun h9 => Or.inr ⟨by omega, by rw [q_ups, ← hq.2, plw_none h9], by rw [q_ups, ← hq.2, plw_none h9]⟩), (fun k9 h9 => by rw [q_upn (by omega)]; exact hp1 k9 h9), (fun k9 h9 => by rw [q_upn h9]; exact hm1 k9 h9), hP, hD, hS, (lv_sub hl [0, 4, 5] rfl)⟩ (by show plm n (chf wd pa nm a n q5) < plm n y; (rw [c_45]; exact plm_dec hC hq.1))
      · skip
        refine lv_aload_n hx hb dX10_plant_76 rfl (lv_at hl 4 rfl) ?_
        refine va_get (D := D) (own := RX10) (ref := "FuzzyFensModel") (ci := 9) (v := .ref mp) (C := RX10) (T := TX10) (N := 15) hx hb hts iX10_plant_X10 hown hK hP 0 rfl rfl 4 (by decide) (hts (.fieldLink RX10 17 "FuzzyFensModel" "parents" "[I") (List.mem_of_getElem? (i := 4) rfl)) (fun _ h9 => h9) rfl dX10_plant_77 ?_
        refine lv_iload hx hb dX10_plant_80 (lv_at hl 0 rfl) ?_
        refine va_iald (D := D) hx hb hK hP 6 5 rfl rfl (vp_in_nI (n := k) (N := 40) (by omega) (by decide)) dX10_plant_82 ?_
        rw [nI_clamp (n := k) (by omega)]
        refine q_cvi (show (fun k9 => pin (p1 k9)) k = pin (p1 k) from rfl) ?_
        refine q_cvi (show (pin (p1 k)) = (pin (pa k)) from (by rw [hp1 k (by omega)])) ?_
        refine lv_iload_n hx hb dX10_plant_83 rfl (lv_at hl 3 rfl) ?_
        refine q_cut 106 (fun (x : (Option Nat)) (Hc : Heap) (Lc : List Loc) (ls : Array Slot) (st : List Value) => match x with | z9 => (z9 = ffi (fun k => decide (pa k = some q5 ∧ nm k = dst wd a q5)) (k + 1)) ∧ H_10 = Hc ∧ locs_11 = Lc ∧ lv_has ls 7 [(6, .int (nI k)), (5, .int (pin (ffi (fun k => decide (pa k = some q5 ∧ nm k = dst wd a q5)) k))), (4, .int (nI (dst wd a q5))), (3, .int (nI q5)), (0, .ref mo), (1, .long (lN a))] ∧ [.int (pin z9)] = st) ?_ ?_
        · clear hl
          rintro z9 Hc Lc ls st hI
          obtain ⟨hz9, rfl, rfl, hl, rfl⟩ := hI
          refine lv_istore (lv' := [(5, .int (pin z9)), (6, .int (nI k)), (4, .int (nI (dst wd a q5))), (3, .int (nI q5)), (0, .ref mo), (1, .long (lN a))]) hx hb dX10_plant_106 hl (by decide) rfl (fun ls hl => ?_)
          refine lv_iinc (v := nI (k + 1)) (lv' := [(6, .int (nI (k + 1))), (5, .int (pin z9)), (4, .int (nI (dst wd a q5))), (3, .int (nI q5)), (0, .ref mo), (1, .long (lN a))]) hx hb dX10_plant_108 hl (k := 1) rfl (q_inc (k := 1) (by omega)) (by decide) rfl (fun ls hl => ?_)
          refine lv_goto (tgt := 67) hx hb dX10_plant_111 (by decide) ?_
          rw [hz9] at hl
          exact ih_67 (k + 1) _ _ _ ⟨(by omega), rfl, rfl, (lv_sub hl [0, 1, 2, 3, 4, 5] rfl)⟩ (by show n - (k + 1) < n - k; omega)
        · intro hcut_106
          refine lv_icmp_ne (tgt := 104) hx hb dX10_plant_84 (by decide) (fun c_84 => ?_) (fun c_84 => ?_)
          · skip
            rw [pin_eq (fun i9 h9 => by have := hpn k i9 (by omega) h9; omega) (by omega)] at c_84
            refine lv_iload hx hb dX10_plant_104 (lv_at hl 1 rfl) ?_
            exact hcut_106 (ffi (fun k => decide (pa k = some q5 ∧ nm k = dst wd a q5)) k) _ _ _ _ ⟨(by rw [← ffi_last (fun j9 h1 h2 h3 => by have e1 := of_decide_eq_true h2; have e2 := of_decide_eq_true h3; have := hun j9 k q5 (by omega) (by omega) e1.1 e2.1 (e1.2.trans e2.2.symm); omega), if_neg (by rw [decide_eq_true_eq]; exact fun h9 => c_84 h9.1)]), rfl, rfl, (lv_sub hl [0, 1, 2, 3, 4, 5] rfl), rfl⟩
          · skip
            rw [pin_eq (fun i9 h9 => by have := hpn k i9 (by omega) h9; omega) (by omega)] at c_84
            refine lv_aload_n hx hb dX10_plant_87 rfl (lv_at hl 4 rfl) ?_
            refine va_get (D := D) (own := RX10) (ref := "FuzzyFensModel") (ci := 9) (v := .ref mnm) (C := RX10) (T := TX10) (N := 15) hx hb hts iX10_plant_X10 hown hK hP 0 rfl rfl 5 (by decide) (hts (.fieldLink RX10 20 "FuzzyFensModel" "numbers" "[I") (List.mem_of_getElem? (i := 5) rfl)) (fun _ h9 => h9) rfl dX10_plant_88 ?_
            refine lv_iload hx hb dX10_plant_91 (lv_at hl 0 rfl) ?_
            refine va_iald (D := D) hx hb hK hP 7 6 rfl rfl (vp_in_nI (n := k) (N := 40) (by omega) (by decide)) dX10_plant_93 ?_
            rw [nI_clamp (n := k) (by omega)]
            refine q_cvi (show (fun k9 => nI (nq1 k9)) k = nI (nq1 k) from rfl) ?_
            refine q_cvi (show (nI (nq1 k)) = (nI (nm k)) from (by rw [hm1 k (by omega)])) ?_
            refine lv_iload hx hb dX10_plant_94 (lv_at hl 2 rfl) ?_
            refine q_icmp_ne (a := nm k) (b := dst wd a q5) (tgt := 104) hx hb dX10_plant_96 (by decide) (hnb k (by omega)) (by omega) (fun c_96 => ?_) (fun c_96 => ?_)
            · skip
              refine lv_iload hx hb dX10_plant_104 (lv_at hl 1 rfl) ?_
              exact hcut_106 (ffi (fun k => decide (pa k = some q5 ∧ nm k = dst wd a q5)) k) _ _ _ _ ⟨(by rw [← ffi_last (fun j9 h1 h2 h3 => by have e1 := of_decide_eq_true h2; have e2 := of_decide_eq_true h3; have := hun j9 k q5 (by omega) (by omega) e1.1 e2.1 (e1.2.trans e2.2.symm); omega), if_neg (by rw [decide_eq_true_eq]; exact fun h9 => c_96 h9.2)]), rfl, rfl, (lv_sub hl [0, 1, 2, 3, 4, 5] rfl), rfl⟩
            · skip
              refine lv_iload hx hb dX10_plant_99 (lv_at hl 0 rfl) ?_
              refine lv_goto (tgt := 106) hx hb dX10_plant_101 (by decide) ?_
              exact hcut_106 (some k) _ _ _ _ ⟨(by rw [← ffi_last (fun j9 h1 h2 h3 => by have e1 := of_decide_eq_true h2; have e2 := of_decide_eq_true h3; have := hun j9 k q5 (by omega) (by omega) e1.1 e2.1 (e1.2.trans e2.2.symm); omega), if_pos (by rw [decide_eq_true_eq]; exact ⟨c_84, c_96⟩)]), rfl, rfl, (lv_sub hl [0, 1, 2, 3, 4, 5] rfl), rfl⟩
  · intro hcut_42
    refine q_if_le (a := n) (tgt := 41) hx hb dX10_plant_34 (by decide) (by omega) (fun c_34 => ?_) (fun c_34 => ?_)
    · skip
      refine lv_iconst (v := (-1)) hx hb dX10_plant_41 (by decide) ?_
      exact hcut_42 none _ _ _ _ ⟨(Or.inl ⟨c_34, rfl⟩), rfl, rfl, (lv_sub hl [0, 1] rfl), rfl⟩
    · skip
      refine lv_iconst (v := nI 0) hx hb dX10_plant_37 (by decide) ?_
      refine lv_goto (tgt := 42) hx hb dX10_plant_38 (by decide) ?_
      exact hcut_42 (some 0) _ _ _ _ ⟨(Or.inr ⟨by omega, rfl⟩), rfl, rfl, (lv_sub hl [0, 1] rfl), rfl⟩

set_option maxRecDepth 20000 in
theorem iX10_add_X10 : ∀ w ∈ wsX100, w ∈ wsX10_add := by decide +kernel
set_option maxHeartbeats 4000000 in
set_option maxRecDepth 100000 in
/-- add -/
theorem c_X10_add (l : Launch) (D : va_G) (sz : Nat) (mo : Nat) (mw : Nat) (mct : Nat) (mp : Nat) (mnm : Nat) (m1 : Nat) (m2 : Nat) (mt : Nat) (mk : Nat) (mr : Nat) (ml : Nat) (mq : Nat) (k1 : ClassId) (k2 : ClassId) (k3 : ClassId) (k4 : ClassId) (k5 : ClassId) (k6 : ClassId) (k7 : ClassId) (th : Int32) (n : Nat) (om : Int32) (tm : Int32) (f1 : Nat → Int32) (f2 : Nat → Int32) (ft : Nat → Int32) (wd : Nat → Nat) (ct : Nat → Nat) (pa : Nat → Option Nat) (nm : Nat → Nat) (a : Nat) (x9 : Int32) (hnd : ([mo, m1, m2, mt, mw, mct, mp, mnm] ++ []).Nodup) (ha : a < 2 ^ 64) (hn40 : n ≤ 40) (hcm : ∀ k, k < n → ct k ≤ 1000000) (hgw : ∀ k, k < n → gw (wd k)) (hnb : ∀ k, k < n → nm k < 2 ^ 31) (hpn : ∀ k i, k < n → pa k = some i → i < k) (hun : ∀ i j q, i < n → j < n → pa i = some q → pa j = some q → nm i = nm j → i = j) (hinj : ∀ i j, i < n → j < n → wd i = wd j → i = j) : Met l yX10_add wsX10_add { frames := 5, cells := 0, slots := 0, locals := 126 } (va_Pc [.ref mo, .long (lN a), .int x9] (qW D sz ([]) [(mo, .inr (9, [.int th, .int (nI n), .ref mw, .ref mct, .ref mp, .ref mnm, .ref m1, .ref m2, .int om, .int tm, .ref mt, .ref mk, .ref mr, .ref ml, .ref mq])), (m1, .inl (k5, 11, .inl f1)), (m2, .inl (k6, 11, .inl f2)), (mt, .inl (k7, 121, .inl ft)), (mw, .inl (k1, 40, .inr (.inl (fun k9 => lN (wd k9))))), (mct, .inl (k2, 40, .inl (fun k9 => nI (ct k9)))), (mp, .inl (k3, 40, .inl (fun k9 => pin (pa k9)))), (mnm, .inl (k4, 40, .inl (fun k9 => nI (nm k9))))] [(k5, .int), (k6, .int), (k7, .int), (k1, .long), (k2, .int), (k3, .int), (k4, .int)])) (va_Qi (fun (rv : Int32) (uv : (Int32) × (Nat) × (Int32) × (Int32) × (Nat → Int32) × (Nat → Int32) × (Nat → Int32) × (Nat → Nat) × (Nat → Nat) × (Nat → Option Nat) × (Nat → Nat)) => ((¬ (gw a ∧ nI 1 ≤ x9 ∧ x9 ≤ nI 1000) ∧ uv.1 = nI 1 ∧ uv.2.1 = n ∧ uv.2.2.2.2.2.2.2.1 = wd ∧ uv.2.2.2.2.2.2.2.2.1 = ct ∧ uv.2.2.2.2.2.2.2.2.2.1 = pa ∧ uv.2.2.2.2.2.2.2.2.2.2 = nm) ∨ ((gw a ∧ nI 1 ≤ x9 ∧ x9 ≤ nI 1000) ∧ uv.1 = nI 2 ∧ ((ffi (fun k => decide (wd k = a)) n = none ∧ n = 40) ∨ ∃ i, ffi (fun k => decide (wd k = a)) n = some i ∧ 1000000 < ct i + kz x9) ∧ uv.2.1 = n ∧ uv.2.2.2.2.2.2.2.1 = wd ∧ uv.2.2.2.2.2.2.2.2.1 = ct ∧ uv.2.2.2.2.2.2.2.2.2.1 = pa ∧ uv.2.2.2.2.2.2.2.2.2.2 = nm) ∨ ((gw a ∧ nI 1 ≤ x9 ∧ x9 ≤ nI 1000) ∧ ffi (fun k => decide (wd k = a)) n = none ∧ n < 40 ∧ uv.1 = nI 0 ∧ rv = nI (kz x9) ∧ uv.2.1 = n + 1 ∧ (∀ k, k < n → uv.2.2.2.2.2.2.2.1 k = wd k) ∧ uv.2.2.2.2.2.2.2.1 n = a ∧ (∀ k, k < n → uv.2.2.2.2.2.2.2.2.1 k = ct k) ∧ uv.2.2.2.2.2.2.2.2.1 n = kz x9 ∧ (∀ k, k < n → uv.2.2.2.2.2.2.2.2.2.1 k = pa k) ∧ (∀ k, k ≠ n → uv.2.2.2.2.2.2.2.2.2.2 k = nm k) ∧ ((n = 0 ∧ uv.2.2.2.2.2.2.2.2.2.1 n = none ∧ uv.2.2.2.2.2.2.2.2.2.2 n = nm n) ∨ (0 < n ∧ uv.2.2.2.2.2.2.2.2.2.1 n = some (plw (chf wd pa nm a n) n 0) ∧ uv.2.2.2.2.2.2.2.2.2.2 n = dst wd a (plw (chf wd pa nm a n) n 0)))) ∨ ((gw a ∧ nI 1 ≤ x9 ∧ x9 ≤ nI 1000) ∧ (∃ i, ffi (fun k => decide (wd k = a)) n = some i ∧ ct i + kz x9 ≤ 1000000 ∧ uv.1 = nI 0 ∧ rv = nI (ct i + kz x9) ∧ uv.2.1 = n ∧ uv.2.2.2.2.2.2.2.1 = wd ∧ uv.2.2.2.2.2.2.2.2.1 = va_up ct i (ct i + kz x9) ∧ uv.2.2.2.2.2.2.2.2.2.1 = pa ∧ uv.2.2.2.2.2.2.2.2.2.2 = nm)))) (fun (uv : (Int32) × (Nat) × (Int32) × (Int32) × (Nat → Int32) × (Nat → Int32) × (Nat → Int32) × (Nat → Nat) × (Nat → Nat) × (Nat → Option Nat) × (Nat → Nat)) (tv : State) => va_P D vwCl [(mo, .inr (9, [.int uv.1, .int (nI uv.2.1), .ref mw, .ref mct, .ref mp, .ref mnm, .ref m1, .ref m2, .int uv.2.2.1, .int uv.2.2.2.1, .ref mt, .ref mk, .ref mr, .ref ml, .ref mq])), (m1, .inl (k5, 11, .inl uv.2.2.2.2.1)), (m2, .inl (k6, 11, .inl uv.2.2.2.2.2.1)), (mt, .inl (k7, 121, .inl uv.2.2.2.2.2.2.1)), (mw, .inl (k1, 40, .inr (.inl (fun k9 => lN (uv.2.2.2.2.2.2.2.1 k9))))), (mct, .inl (k2, 40, .inl (fun k9 => nI (uv.2.2.2.2.2.2.2.2.1 k9)))), (mp, .inl (k3, 40, .inl (fun k9 => pin (uv.2.2.2.2.2.2.2.2.2.1 k9)))), (mnm, .inl (k4, 40, .inl (fun k9 => nI (uv.2.2.2.2.2.2.2.2.2.2 k9))))] tv.heap) (va_A [(mo, .inr (9, [.int th, .int (nI n), .ref mw, .ref mct, .ref mp, .ref mnm, .ref m1, .ref m2, .int om, .int tm, .ref mt, .ref mk, .ref mr, .ref ml, .ref mq])), (m1, .inl (k5, 11, .inl f1)), (m2, .inl (k6, 11, .inl f2)), (mt, .inl (k7, 121, .inl ft)), (mw, .inl (k1, 40, .inr (.inl (fun k9 => lN (wd k9))))), (mct, .inl (k2, 40, .inl (fun k9 => nI (ct k9)))), (mp, .inl (k3, 40, .inl (fun k9 => pin (pa k9)))), (mnm, .inl (k4, 40, .inl (fun k9 => nI (nm k9))))] sz)) 0 0 (va_A [(mo, .inr (9, [.int th, .int (nI n), .ref mw, .ref mct, .ref mp, .ref mnm, .ref m1, .ref m2, .int om, .int tm, .ref mt, .ref mk, .ref mr, .ref ml, .ref mq])), (m1, .inl (k5, 11, .inl f1)), (m2, .inl (k6, 11, .inl f2)), (mt, .inl (k7, 121, .inl ft)), (mw, .inl (k1, 40, .inr (.inl (fun k9 => lN (wd k9))))), (mct, .inl (k2, 40, .inl (fun k9 => nI (ct k9)))), (mp, .inl (k3, 40, .inl (fun k9 => pin (pa k9)))), (mnm, .inl (k4, 40, .inl (fun k9 => nI (nm k9))))] sz) := by
  refine Met.ofW (cc := cX10_add) (maxL := 7) (ret := (some .int)) (by decide) rfl ?_
  intro pM eM s mi9 argsM belowM methM cM sM B hml hv
  obtain ⟨rfl, hsz, hR0, hP, hK, hNw⟩ := hv
  have hx := B.exec
  have hb := B.bytes
  have hr := B.returns
  have hts := atoms_spec (ws := wsX10_add) B.pre
  have hown : s.vm.findClass RX10 = some mi9.cls := findClass_of_methodNamed B.named
  have hlocks := B.notSynchronized
  subst hsz
  have hna := q_na (RW := [(mo, .inr (9, [.int th, .int (nI n), .ref mw, .ref mct, .ref mp, .ref mnm, .ref m1, .ref m2, .int om, .int tm, .ref mt, .ref mk, .ref mr, .ref ml, .ref mq])), (m1, .inl (k5, 11, .inl f1)), (m2, .inl (k6, 11, .inl f2)), (mt, .inl (k7, 121, .inl ft)), (mw, .inl (k1, 40, .inr (.inl (fun k9 => lN (wd k9))))), (mct, .inl (k2, 40, .inl (fun k9 => nI (ct k9)))), (mp, .inl (k3, 40, .inl (fun k9 => pin (pa k9)))), (mnm, .inl (k4, 40, .inl (fun k9 => nI (nm k9))))]) (RO := []) hnd rfl rfl hR0
  have hD := q_D (RW := [(mo, .inr (9, [.int th, .int (nI n), .ref mw, .ref mct, .ref mp, .ref mnm, .ref m1, .ref m2, .int om, .int tm, .ref mt, .ref mk, .ref mr, .ref ml, .ref mq])), (m1, .inl (k5, 11, .inl f1)), (m2, .inl (k6, 11, .inl f2)), (mt, .inl (k7, 121, .inl ft)), (mw, .inl (k1, 40, .inr (.inl (fun k9 => lN (wd k9))))), (mct, .inl (k2, 40, .inl (fun k9 => nI (ct k9)))), (mp, .inl (k3, 40, .inl (fun k9 => pin (pa k9)))), (mnm, .inl (k4, 40, .inl (fun k9 => nI (nm k9))))]) (sz := s.heap.size) hnd rfl
  have hA : ∀ q : Nat, s.heap.size ≤ q → va_A [(mo, .inr (9, [.int th, .int (nI n), .ref mw, .ref mct, .ref mp, .ref mnm, .ref m1, .ref m2, .int om, .int tm, .ref mt, .ref mk, .ref mr, .ref ml, .ref mq])), (m1, .inl (k5, 11, .inl f1)), (m2, .inl (k6, 11, .inl f2)), (mt, .inl (k7, 121, .inl ft)), (mw, .inl (k1, 40, .inr (.inl (fun k9 => lN (wd k9))))), (mct, .inl (k2, 40, .inl (fun k9 => nI (ct k9)))), (mp, .inl (k3, 40, .inl (fun k9 => pin (pa k9)))), (mnm, .inl (k4, 40, .inl (fun k9 => nI (nm k9))))] s.heap.size q := fun q h => Or.inr h
  generalize hAe : va_A [(mo, .inr (9, [.int th, .int (nI n), .ref mw, .ref mct, .ref mp, .ref mnm, .ref m1, .ref m2, .int om, .int tm, .ref mt, .ref mk, .ref mr, .ref ml, .ref mq])), (m1, .inl (k5, 11, .inl f1)), (m2, .inl (k6, 11, .inl f2)), (mt, .inl (k7, 121, .inl ft)), (mw, .inl (k1, 40, .inr (.inl (fun k9 => lN (wd k9))))), (mct, .inl (k2, 40, .inl (fun k9 => nI (ct k9)))), (mp, .inl (k3, 40, .inl (fun k9 => pin (pa k9)))), (mnm, .inl (k4, 40, .inl (fun k9 => nI (nm k9))))] s.heap.size = A at hna hD hA ⊢
  have hS : va_S A s.heap s.heap [] := va_S.rf
  have hR := hR0
  have hP : va_P D vwCl [(mo, .inr (9, [.int th, .int (nI n), .ref mw, .ref mct, .ref mp, .ref mnm, .ref m1, .ref m2, .int om, .int tm, .ref mt, .ref mk, .ref mr, .ref ml, .ref mq])), (m1, .inl (k5, 11, .inl f1)), (m2, .inl (k6, 11, .inl f2)), (mt, .inl (k7, 121, .inl ft)), (mw, .inl (k1, 40, .inr (.inl (fun k9 => lN (wd k9))))), (mct, .inl (k2, 40, .inl (fun k9 => nI (ct k9)))), (mp, .inl (k3, 40, .inl (fun k9 => pin (pa k9)))), (mnm, .inl (k4, 40, .inl (fun k9 => nI (nm k9))))] s.heap := hP
  have hl := lv_entry ([.ref mo, .long (lN a), .int x9]) (n := 7) (Nat.le_of_ble_eq_true rfl)
  rw [lg_entry_eq]
  generalize (lg_sl ([.ref mo, .long (lN a), .int x9]) ++ List.replicate (7 - (lg_sl ([.ref mo, .long (lN a), .int x9])).length) Slot.unset).toArray = ls at hl ⊢
  have hl : lv_has ls 7 [(0, .ref mo), (1, .long (lN a)), (3, .int x9)] := hl
  refine lv_lload_n hx hb dX10_add_0 rfl (lv_at hl 1 rfl) ?_
  refine vp_callSi (W.runS (As := [.long (lN a)]) (rest := []) ⟨hx, hb, hml, hown, hts⟩ (c_X10_isWord (l := l) (D := D) (a := a) (ha := ha)) (va_cwS 1 hts gX10_add_X10_isWord rfl rfl rfl (by decide +kernel) ⟨Nat.le_of_ble_eq_true rfl, Nat.le_of_ble_eq_true rfl⟩) ⟨qP_blind, (qP_of (q_Pof (fun _ h => absurd h List.not_mem_nil)) (hK.sub (tys' := []) [] rfl) hNw)⟩ rfl rfl hl.1 rfl (lv_room (Nat.le_of_ble_eq_true rfl)) dX10_add_1 ⟨Nat.le_of_ble_eq_true rfl, Nat.le_of_ble_eq_true rfl⟩) (fun r_1 hr_1 => ?_)
  subst hr_1
  refine q_cut 24 (fun (x : (Nat)) (Hc : Heap) (Lc : List Loc) (ls : Array Slot) (st : List Value) => match x with | b => (b ≤ 1) ∧ (b = 1 ↔ (gw a ∧ nI 1 ≤ x9 ∧ x9 ≤ nI 1000)) ∧ s.heap = Hc ∧ [] = Lc ∧ lv_has ls 7 [(0, .ref mo), (1, .long (lN a)), (3, .int x9)] ∧ [.int (nI b)] = st) ?_ ?_
  · clear hl
    rintro b Hc Lc ls st hI
    obtain ⟨hb1, hbv, rfl, rfl, hl, rfl⟩ := hI
    refine lv_istore (lv' := [(4, .int (nI b)), (0, .ref mo), (1, .long (lN a)), (3, .int x9)]) hx hb dX10_add_24 hl (by decide) rfl (fun ls hl => ?_)
    refine lv_iload hx hb dX10_add_26 (lv_at hl 0 rfl) ?_
    refine q_if_eq (a := b) (tgt := 39) hx hb dX10_add_28 (by decide) (by omega) (fun c_28 => ?_) (fun c_28 => ?_)
    · skip
      have hno : ¬ (gw a ∧ nI 1 ≤ x9 ∧ x9 ≤ nI 1000) := fun h9 => by have := hbv.mpr h9; omega
      have hl : lv_has ls 7 [(4, .int (nI 0)), (0, .ref mo), (1, .long (lN a)), (3, .int x9)] := (congrArg (fun v9 => lv_has ls 7 [(4, .int v9), (0, .ref mo), (1, .long (lN a)), (3, .int x9)]) (congrArg nI (show b = 0 by omega))).mp hl
      refine lv_iconst (v := (-1)) hx hb dX10_add_39 (by decide) ?_
      refine lv_istore (lv' := [(5, .int ((-1))), (4, .int (nI 0)), (0, .ref mo), (1, .long (lN a)), (3, .int x9)]) hx hb dX10_add_40 hl (by decide) rfl (fun ls hl => ?_)
      refine lv_iload hx hb dX10_add_42 (lv_at hl 0 rfl) ?_
      refine lv_iconst (v := (-1)) hx hb dX10_add_44 (by decide) ?_
      refine lv_icmp_ne (tgt := 65) hx hb dX10_add_45 (by decide) (fun c9 => absurd rfl c9) (fun _ => ?_)
      refine lv_aload_n hx hb dX10_add_48 rfl (lv_at hl 2 rfl) ?_
      refine va_get (D := D) (own := RX10) (ref := "FuzzyFensModel") (ci := 9) (v := .int (nI n)) (C := RX10) (T := TX10) (N := 15) hx hb hts iX10_add_X10 hown hK hP 0 rfl rfl 1 (by decide) (hts (.fieldLink RX10 77 "FuzzyFensModel" "many" "I") (List.mem_of_getElem? (i := 1) rfl)) (fun _ h9 => h9) rfl dX10_add_49 ?_
      refine lv_bipush (v := nI 40) hx hb dX10_add_52 (by decide) ?_
      refine q_icmp_ne (a := n) (b := 40) (tgt := 61) hx hb dX10_add_54 (by decide) (by omega) (by omega) (fun c_54 => ?_) (fun c_54 => ?_)
      · skip
        refine lv_iconst (v := nI 0) hx hb dX10_add_61 (by decide) ?_
        refine lv_goto (tgt := 84) hx hb dX10_add_62 (by decide) ?_
        refine lv_istore (lv' := [(6, .int (nI 0)), (5, .int ((-1))), (4, .int (nI 0)), (0, .ref mo), (1, .long (lN a)), (3, .int x9)]) hx hb dX10_add_84 hl (by decide) rfl (fun ls hl => ?_)
        refine lv_aload_n hx hb dX10_add_86 rfl (lv_at hl 3 rfl) ?_
        refine lv_iload hx hb dX10_add_87 (lv_at hl 2 rfl) ?_
        refine lv_if_ne (tgt := 96) hx hb dX10_add_89 (by decide) (fun c9 => absurd (by decide) c9) (fun _ => ?_)
        refine lv_iconst (v := nI 1) hx hb dX10_add_92 (by decide) ?_
        refine lv_goto (tgt := 106) hx hb dX10_add_93 (by decide) ?_
        have hF := va_free (wc := [(mo, .inr (9, [.int th, .int (nI n), .ref mw, .ref mct, .ref mp, .ref mnm, .ref m1, .ref m2, .int om, .int tm, .ref mt, .ref mk, .ref mr, .ref ml, .ref mq]))]) hD hS hA [0] rfl
        refine va_calli (va_runV (As := [.int (nI 1)]) (rest := []) ⟨hx, hb, hml, hown, hts⟩ (c_X10_goesWell (l := l) (D := D) (mo := mo) (mw := mw) (mct := mct) (mp := mp) (mnm := mnm) (m1 := m1) (m2 := m2) (mt := mt) (mk := mk) (mr := mr) (ml := ml) (mq := mq) (th := th) (n := n) (om := om) (tm := tm) (x9 := 1) (sz := s.heap.size) (hnd := (q_nds hnd [0] rfl rfl)) (hx9 := by omega)) (cwV 1 hts gX10_add_X10_goesWell rfl rfl rfl (by decide +kernel) ⟨Nat.le_of_ble_eq_true rfl, Nat.le_of_ble_eq_true rfl⟩) ⟨qW_blind, (va_recv hK hP (ci := 9) (q0 := 0) rfl rfl), (qW_of (q_Pof (fun _ h => absurd h List.not_mem_nil)) (hP.sub (ws' := [(mo, .inr (9, [.int th, .int (nI n), .ref mw, .ref mct, .ref mp, .ref mnm, .ref m1, .ref m2, .int om, .int tm, .ref mt, .ref mk, .ref mr, .ref ml, .ref mq]))]) [0] rfl) (hK.sub (tys' := []) [] rfl) hNw)⟩ rfl rfl hl.1 rfl (lv_room (Nat.le_of_ble_eq_true rfl)) dX10_add_106 ⟨Nat.le_of_ble_eq_true rfl, Nat.le_of_ble_eq_true rfl⟩) hS (fun q _ h => hF q h) hF (fun r_2 u_6 t_5 H_3 locs_4 ht hvm hr_2 hB hz1 hk1 hS => ?_)
        replace hB : va_P D vwCl [(mo, .inr (9, [.int (nI 1), .int (nI n), .ref mw, .ref mct, .ref mp, .ref mnm, .ref m1, .ref m2, .int om, .int tm, .ref mt, .ref mk, .ref mr, .ref ml, .ref mq]))] H_3 := by rw [← ht]; exact hB
        obtain ⟨hP, hD⟩ := q_join (wc := [(mo, .inr (9, [.int th, .int (nI n), .ref mw, .ref mct, .ref mp, .ref mnm, .ref m1, .ref m2, .int om, .int tm, .ref mt, .ref mk, .ref mr, .ref ml, .ref mq]))]) (w1 := [(mo, .inr (9, [.int (nI 1), .int (nI n), .ref mw, .ref mct, .ref mp, .ref mnm, .ref m1, .ref m2, .int om, .int tm, .ref mt, .ref mk, .ref mr, .ref ml, .ref mq]))]) (ws' := [(mo, .inr (9, [.int (nI 1), .int (nI n), .ref mw, .ref mct, .ref mp, .ref mnm, .ref m1, .ref m2, .int om, .int tm, .ref mt, .ref mk, .ref mr, .ref ml, .ref mq])), (m1, .inl (k5, 11, .inl f1)), (m2, .inl (k6, 11, .inl f2)), (mt, .inl (k7, 121, .inl ft)), (mw, .inl (k1, 40, .inr (.inl (fun k9 => lN (wd k9))))), (mct, .inl (k2, 40, .inl (fun k9 => nI (ct k9)))), (mp, .inl (k3, 40, .inl (fun k9 => pin (pa k9)))), (mnm, .inl (k4, 40, .inl (fun k9 => nI (nm k9))))]) [0] hP hD rfl rfl hk1 hB rfl
        have hR := q_ro hR0 hna hS
        subst hr_2
        refine q_ifb_ne (tgt := 114) hx hb dX10_add_109 (by decide) (fun c9 => absurd c9 (by decide)) (fun _ => ?_)
        refine lv_iconst (v := nI 0) hx hb dX10_add_112 (by decide) ?_
        exact W.iret (v := nI 0) hx hb hr (fun t9 ht hW => ⟨⟨nI 0, (nI 1, n, om, tm, f1, f2, ft, wd, ct, pa, nm), rfl, (Or.inl ⟨hno, rfl, rfl, rfl, rfl, rfl, rfl⟩), by show va_P D vwCl _ t9.heap; rw [ht]; exact hP⟩, hS.F ht⟩) hS.2.2 dX10_add_113
      · skip
        refine lv_iconst (v := nI 1) hx hb dX10_add_57 (by decide) ?_
        refine lv_goto (tgt := 84) hx hb dX10_add_58 (by decide) ?_
        refine lv_istore (lv' := [(6, .int (nI 1)), (5, .int ((-1))), (4, .int (nI 0)), (0, .ref mo), (1, .long (lN a)), (3, .int x9)]) hx hb dX10_add_84 hl (by decide) rfl (fun ls hl => ?_)
        refine lv_aload_n hx hb dX10_add_86 rfl (lv_at hl 3 rfl) ?_
        refine lv_iload hx hb dX10_add_87 (lv_at hl 2 rfl) ?_
        refine lv_if_ne (tgt := 96) hx hb dX10_add_89 (by decide) (fun c9 => absurd (by decide) c9) (fun _ => ?_)
        refine lv_iconst (v := nI 1) hx hb dX10_add_92 (by decide) ?_
        refine lv_goto (tgt := 106) hx hb dX10_add_93 (by decide) ?_
        have hF := va_free (wc := [(mo, .inr (9, [.int th, .int (nI n), .ref mw, .ref mct, .ref mp, .ref mnm, .ref m1, .ref m2, .int om, .int tm, .ref mt, .ref mk, .ref mr, .ref ml, .ref mq]))]) hD hS hA [0] rfl
        refine va_calli (va_runV (As := [.int (nI 1)]) (rest := []) ⟨hx, hb, hml, hown, hts⟩ (c_X10_goesWell (l := l) (D := D) (mo := mo) (mw := mw) (mct := mct) (mp := mp) (mnm := mnm) (m1 := m1) (m2 := m2) (mt := mt) (mk := mk) (mr := mr) (ml := ml) (mq := mq) (th := th) (n := n) (om := om) (tm := tm) (x9 := 1) (sz := s.heap.size) (hnd := (q_nds hnd [0] rfl rfl)) (hx9 := by omega)) (cwV 1 hts gX10_add_X10_goesWell rfl rfl rfl (by decide +kernel) ⟨Nat.le_of_ble_eq_true rfl, Nat.le_of_ble_eq_true rfl⟩) ⟨qW_blind, (va_recv hK hP (ci := 9) (q0 := 0) rfl rfl), (qW_of (q_Pof (fun _ h => absurd h List.not_mem_nil)) (hP.sub (ws' := [(mo, .inr (9, [.int th, .int (nI n), .ref mw, .ref mct, .ref mp, .ref mnm, .ref m1, .ref m2, .int om, .int tm, .ref mt, .ref mk, .ref mr, .ref ml, .ref mq]))]) [0] rfl) (hK.sub (tys' := []) [] rfl) hNw)⟩ rfl rfl hl.1 rfl (lv_room (Nat.le_of_ble_eq_true rfl)) dX10_add_106 ⟨Nat.le_of_ble_eq_true rfl, Nat.le_of_ble_eq_true rfl⟩) hS (fun q _ h => hF q h) hF (fun r_7 u_11 t_10 H_8 locs_9 ht hvm hr_7 hB hz1 hk1 hS => ?_)
        replace hB : va_P D vwCl [(mo, .inr (9, [.int (nI 1), .int (nI n), .ref mw, .ref mct, .ref mp, .ref mnm, .ref m1, .ref m2, .int om, .int tm, .ref mt, .ref mk, .ref mr, .ref ml, .ref mq]))] H_8 := by rw [← ht]; exact hB
        obtain ⟨hP, hD⟩ := q_join (wc := [(mo, .inr (9, [.int th, .int (nI n), .ref mw, .ref mct, .ref mp, .ref mnm, .ref m1, .ref m2, .int om, .int tm, .ref mt, .ref mk, .ref mr, .ref ml, .ref mq]))]) (w1 := [(mo, .inr (9, [.int (nI 1), .int (nI n), .ref mw, .ref mct, .ref mp, .ref mnm, .ref m1, .ref m2, .int om, .int tm, .ref mt, .ref mk, .ref mr, .ref ml, .ref mq]))]) (ws' := [(mo, .inr (9, [.int (nI 1), .int (nI n), .ref mw, .ref mct, .ref mp, .ref mnm, .ref m1, .ref m2, .int om, .int tm, .ref mt, .ref mk, .ref mr, .ref ml, .ref mq])), (m1, .inl (k5, 11, .inl f1)), (m2, .inl (k6, 11, .inl f2)), (mt, .inl (k7, 121, .inl ft)), (mw, .inl (k1, 40, .inr (.inl (fun k9 => lN (wd k9))))), (mct, .inl (k2, 40, .inl (fun k9 => nI (ct k9)))), (mp, .inl (k3, 40, .inl (fun k9 => pin (pa k9)))), (mnm, .inl (k4, 40, .inl (fun k9 => nI (nm k9))))]) [0] hP hD rfl rfl hk1 hB rfl
        have hR := q_ro hR0 hna hS
        subst hr_7
        refine q_ifb_ne (tgt := 114) hx hb dX10_add_109 (by decide) (fun c9 => absurd c9 (by decide)) (fun _ => ?_)
        refine lv_iconst (v := nI 0) hx hb dX10_add_112 (by decide) ?_
        exact W.iret (v := nI 0) hx hb hr (fun t9 ht hW => ⟨⟨nI 0, (nI 1, n, om, tm, f1, f2, ft, wd, ct, pa, nm), rfl, (Or.inl ⟨hno, rfl, rfl, rfl, rfl, rfl, rfl⟩), by show va_P D vwCl _ t9.heap; rw [ht]; exact hP⟩, hS.F ht⟩) hS.2.2 dX10_add_113
    · skip
      have hok := hbv.mp (by omega)
      have gx := kz_ge (by decide) hok.2.1
      have lx := kz_le (by decide) gx.1 hok.2.2
      have hl : lv_has ls 7 [(4, .int (nI 1)), (0, .ref mo), (1, .long (lN a)), (3, .int x9)] := (congrArg (fun v9 => lv_has ls 7 [(4, .int v9), (0, .ref mo), (1, .long (lN a)), (3, .int x9)]) (congrArg nI (show b = 1 by omega))).mp hl
      refine lv_aload_n hx hb dX10_add_31 rfl (lv_at hl 1 rfl) ?_
      have hl : lv_has ls 7 [(4, .int (nI 1)), (0, .ref mo), (1, .long (lN a)), (3, .int (nI (kz x9)))] := (congrArg (fun v9 => lv_has ls 7 [(4, .int (nI 1)), (0, .ref mo), (1, .long (lN a)), (3, .int v9)]) (kz_of gx.1)).mp hl
      refine lv_lload_n hx hb dX10_add_32 rfl (lv_at hl 2 rfl) ?_
      refine vp_callSi (W.runV (As := [.long (lN a)]) (rest := []) ⟨hx, hb, hml, hown, hts⟩ (c_X10_find (l := l) (D := D) (mo := mo) (mw := mw) (mct := mct) (mp := mp) (mnm := mnm) (m1 := m1) (m2 := m2) (mt := mt) (mk := mk) (mr := mr) (ml := ml) (mq := mq) (k1 := k1) (th := th) (n := n) (om := om) (tm := tm) (wd := wd) (v := a) (hv9 := by have := gw_lt hok.1; omega) (hn40 := hn40) (hgw := hgw) (hinj := hinj)) (cwV 1 hts gX10_add_X10_find rfl rfl rfl (by decide +kernel) ⟨Nat.le_of_ble_eq_true rfl, Nat.le_of_ble_eq_true rfl⟩) ⟨qP_blind, (va_recv hK hP (ci := 9) (q0 := 0) rfl rfl), (qP_of (hP.sub (ws' := [(mo, .inr (9, [.int th, .int (nI n), .ref mw, .ref mct, .ref mp, .ref mnm, .ref m1, .ref m2, .int om, .int tm, .ref mt, .ref mk, .ref mr, .ref ml, .ref mq])), (mw, .inl (k1, 40, .inr (.inl (fun k9 => lN (wd k9)))))]) [0, 4] rfl) (hK.sub (tys' := [(k1, .long)]) [3] rfl) hNw)⟩ rfl rfl hl.1 rfl (lv_room (Nat.le_of_ble_eq_true rfl)) dX10_add_33 ⟨Nat.le_of_ble_eq_true rfl, Nat.le_of_ble_eq_true rfl⟩) (fun r_12 hr_12 => ?_)
      subst hr_12
      refine lv_goto (tgt := 40) hx hb dX10_add_36 (by decide) ?_
      refine lv_istore (lv' := [(5, .int (pin (ffi (fun k => decide (wd k = a)) n))), (4, .int (nI 1)), (0, .ref mo), (1, .long (lN a)), (3, .int (nI (kz x9)))]) hx hb dX10_add_40 hl (by decide) rfl (fun ls hl => ?_)
      refine lv_iload hx hb dX10_add_42 (lv_at hl 0 rfl) ?_
      refine lv_iconst (v := (-1)) hx hb dX10_add_44 (by decide) ?_
      refine q_pin_ne (o := ffi (fun k => decide (wd k = a)) n) (tgt := 65) hx hb dX10_add_45 (by decide) (fun i9 h9 => by have := (ffi_some h9).1; omega) (fun c_45 => ?_) (fun i7 c_45 => ?_)
      · skip
        have hl : lv_has ls 7 [(5, .int ((-1))), (4, .int (nI 1)), (0, .ref mo), (1, .long (lN a)), (3, .int (nI (kz x9)))] := by rw [c_45] at hl; exact hl
        refine lv_aload_n hx hb dX10_add_48 rfl (lv_at hl 2 rfl) ?_
        refine va_get (D := D) (own := RX10) (ref := "FuzzyFensModel") (ci := 9) (v := .int (nI n)) (C := RX10) (T := TX10) (N := 15) hx hb hts iX10_add_X10 hown hK hP 0 rfl rfl 1 (by decide) (hts (.fieldLink RX10 77 "FuzzyFensModel" "many" "I") (List.mem_of_getElem? (i := 1) rfl)) (fun _ h9 => h9) rfl dX10_add_49 ?_
        refine lv_bipush (v := nI 40) hx hb dX10_add_52 (by decide) ?_
        refine q_icmp_ne (a := n) (b := 40) (tgt := 61) hx hb dX10_add_54 (by decide) (by omega) (by omega) (fun c_54 => ?_) (fun c_54 => ?_)
        · skip
          refine lv_iconst (v := nI 0) hx hb dX10_add_61 (by decide) ?_
          refine lv_goto (tgt := 84) hx hb dX10_add_62 (by decide) ?_
          refine lv_istore (lv' := [(6, .int (nI 0)), (5, .int ((-1))), (4, .int (nI 1)), (0, .ref mo), (1, .long (lN a)), (3, .int (nI (kz x9)))]) hx hb dX10_add_84 hl (by decide) rfl (fun ls hl => ?_)
          refine lv_aload_n hx hb dX10_add_86 rfl (lv_at hl 3 rfl) ?_
          refine lv_iload hx hb dX10_add_87 (lv_at hl 2 rfl) ?_
          refine lv_if_ne (tgt := 96) hx hb dX10_add_89 (by decide) (fun _ => ?_) (fun c9 => absurd c9 (by decide))
          refine lv_iload hx hb dX10_add_96 (lv_at hl 0 rfl) ?_
          refine lv_if_eq (tgt := 105) hx hb dX10_add_98 (by decide) (fun _ => ?_) (fun c9 => absurd (by decide) c9)
          refine lv_iconst (v := nI 0) hx hb dX10_add_105 (by decide) ?_
          have hF := va_free (wc := [(mo, .inr (9, [.int th, .int (nI n), .ref mw, .ref mct, .ref mp, .ref mnm, .ref m1, .ref m2, .int om, .int tm, .ref mt, .ref mk, .ref mr, .ref ml, .ref mq]))]) hD hS hA [0] rfl
          refine va_calli (va_runV (As := [.int (nI 0)]) (rest := []) ⟨hx, hb, hml, hown, hts⟩ (c_X10_goesWell (l := l) (D := D) (mo := mo) (mw := mw) (mct := mct) (mp := mp) (mnm := mnm) (m1 := m1) (m2 := m2) (mt := mt) (mk := mk) (mr := mr) (ml := ml) (mq := mq) (th := th) (n := n) (om := om) (tm := tm) (x9 := 0) (sz := s.heap.size) (hnd := (q_nds hnd [0] rfl rfl)) (hx9 := by omega)) (cwV 1 hts gX10_add_X10_goesWell rfl rfl rfl (by decide +kernel) ⟨Nat.le_of_ble_eq_true rfl, Nat.le_of_ble_eq_true rfl⟩) ⟨qW_blind, (va_recv hK hP (ci := 9) (q0 := 0) rfl rfl), (qW_of (q_Pof (fun _ h => absurd h List.not_mem_nil)) (hP.sub (ws' := [(mo, .inr (9, [.int th, .int (nI n), .ref mw, .ref mct, .ref mp, .ref mnm, .ref m1, .ref m2, .int om, .int tm, .ref mt, .ref mk, .ref mr, .ref ml, .ref mq]))]) [0] rfl) (hK.sub (tys' := []) [] rfl) hNw)⟩ rfl rfl hl.1 rfl (lv_room (Nat.le_of_ble_eq_true rfl)) dX10_add_106 ⟨Nat.le_of_ble_eq_true rfl, Nat.le_of_ble_eq_true rfl⟩) hS (fun q _ h => hF q h) hF (fun r_13 u_17 t_16 H_14 locs_15 ht hvm hr_13 hB hz1 hk1 hS => ?_)
          replace hB : va_P D vwCl [(mo, .inr (9, [.int (nI 0), .int (nI n), .ref mw, .ref mct, .ref mp, .ref mnm, .ref m1, .ref m2, .int om, .int tm, .ref mt, .ref mk, .ref mr, .ref ml, .ref mq]))] H_14 := by rw [← ht]; exact hB
          obtain ⟨hP, hD⟩ := q_join (wc := [(mo, .inr (9, [.int th, .int (nI n), .ref mw, .ref mct, .ref mp, .ref mnm, .ref m1, .ref m2, .int om, .int tm, .ref mt, .ref mk, .ref mr, .ref ml, .ref mq]))]) (w1 := [(mo, .inr (9, [.int (nI 0), .int (nI n), .ref mw, .ref mct, .ref mp, .ref mnm, .ref m1, .ref m2, .int om, .int tm, .ref mt, .ref mk, .ref mr, .ref ml, .ref mq]))]) (ws' := [(mo, .inr (9, [.int (nI 0), .int (nI n), .ref mw, .ref mct, .ref mp, .ref mnm, .ref m1, .ref m2, .int om, .int tm, .ref mt, .ref mk, .ref mr, .ref ml, .ref mq])), (m1, .inl (k5, 11, .inl f1)), (m2, .inl (k6, 11, .inl f2)), (mt, .inl (k7, 121, .inl ft)), (mw, .inl (k1, 40, .inr (.inl (fun k9 => lN (wd k9))))), (mct, .inl (k2, 40, .inl (fun k9 => nI (ct k9)))), (mp, .inl (k3, 40, .inl (fun k9 => pin (pa k9)))), (mnm, .inl (k4, 40, .inl (fun k9 => nI (nm k9))))]) [0] hP hD rfl rfl hk1 hB rfl
          have hR := q_ro hR0 hna hS
          subst hr_13
          refine q_ifb_ne (tgt := 114) hx hb dX10_add_109 (by decide) (fun _ => ?_) (fun c9 => absurd (by decide) c9)
          refine lv_iload hx hb dX10_add_114 (lv_at hl 1 rfl) ?_
          refine lv_iconst (v := (-1)) hx hb dX10_add_116 (by decide) ?_
          refine lv_icmp_ne (tgt := 131) hx hb dX10_add_117 (by decide) (fun c9 => absurd rfl c9) (fun _ => ?_)
          refine lv_aload_n hx hb dX10_add_120 rfl (lv_at hl 3 rfl) ?_
          refine va_get (D := D) (own := RX10) (ref := "FuzzyFensModel") (ci := 9) (v := .int (nI n)) (C := RX10) (T := TX10) (N := 15) hx hb hts iX10_add_X10 hown hK hP 0 rfl rfl 1 (by decide) (hts (.fieldLink RX10 77 "FuzzyFensModel" "many" "I") (List.mem_of_getElem? (i := 1) rfl)) (fun _ h9 => h9) rfl dX10_add_121 ?_
          refine lv_istore (lv' := [(5, .int (nI n)), (6, .int (nI 0)), (4, .int (nI 1)), (0, .ref mo), (1, .long (lN a)), (3, .int (nI (kz x9)))]) hx hb dX10_add_124 hl (by decide) rfl (fun ls hl => ?_)
          refine lv_aload_n hx hb dX10_add_126 rfl (lv_at hl 3 rfl) ?_
          refine lv_lload_n hx hb dX10_add_127 rfl (lv_at hl 4 rfl) ?_
          have hF := va_free (wc := [(mo, .inr (9, [.int (nI 0), .int (nI n), .ref mw, .ref mct, .ref mp, .ref mnm, .ref m1, .ref m2, .int om, .int tm, .ref mt, .ref mk, .ref mr, .ref ml, .ref mq])), (m1, .inl (k5, 11, .inl f1)), (m2, .inl (k6, 11, .inl f2)), (mt, .inl (k7, 121, .inl ft)), (mw, .inl (k1, 40, .inr (.inl (fun k9 => lN (wd k9))))), (mct, .inl (k2, 40, .inl (fun k9 => nI (ct k9)))), (mp, .inl (k3, 40, .inl (fun k9 => pin (pa k9)))), (mnm, .inl (k4, 40, .inl (fun k9 => nI (nm k9))))]) hD hS hA [0, 1, 2, 3, 4, 5, 6, 7] rfl
          refine va_callv (va_runV (As := [.long (lN a)]) (rest := []) ⟨hx, hb, hml, hown, hts⟩ (c_X10_plant (l := l) (D := D) (mo := mo) (mw := mw) (mct := mct) (mp := mp) (mnm := mnm) (m1 := m1) (m2 := m2) (mt := mt) (mk := mk) (mr := mr) (ml := ml) (mq := mq) (k1 := k1) (k2 := k2) (k3 := k3) (k4 := k4) (k5 := k5) (k6 := k6) (k7 := k7) (th := nI 0) (n := n) (om := om) (tm := tm) (f1 := f1) (f2 := f2) (ft := ft) (wd := wd) (ct := ct) (pa := pa) (nm := nm) (a := a) (sz := H_14.size) (hnd := (q_nds hnd [0, 1, 2, 3, 4, 5, 6, 7] rfl rfl)) (hn9 := by omega) (hga := hok.1) (hgw := hgw) (hnb := hnb) (hpn := hpn) (hun := hun)) (cwV 1 hts gX10_add_X10_plant rfl rfl rfl (by decide +kernel) ⟨Nat.le_of_ble_eq_true rfl, Nat.le_of_ble_eq_true rfl⟩) ⟨qW_blind, (va_recv hK hP (ci := 9) (q0 := 0) rfl rfl), (qW_of (q_Pof (fun _ h => absurd h List.not_mem_nil)) (hP.sub (ws' := [(mo, .inr (9, [.int (nI 0), .int (nI n), .ref mw, .ref mct, .ref mp, .ref mnm, .ref m1, .ref m2, .int om, .int tm, .ref mt, .ref mk, .ref mr, .ref ml, .ref mq])), (m1, .inl (k5, 11, .inl f1)), (m2, .inl (k6, 11, .inl f2)), (mt, .inl (k7, 121, .inl ft)), (mw, .inl (k1, 40, .inr (.inl (fun k9 => lN (wd k9))))), (mct, .inl (k2, 40, .inl (fun k9 => nI (ct k9)))), (mp, .inl (k3, 40, .inl (fun k9 => pin (pa k9)))), (mnm, .inl (k4, 40, .inl (fun k9 => nI (nm k9))))]) [0, 1, 2, 3, 4, 5, 6, 7] rfl) (hK.sub (tys' := [(k5, .int), (k6, .int), (k7, .int), (k1, .long), (k2, .int), (k3, .int), (k4, .int)]) [0, 1, 2, 3, 4, 5, 6] rfl) hNw)⟩ rfl rfl hl.1 rfl (lv_room (Nat.le_of_ble_eq_true rfl)) dX10_add_128 ⟨Nat.le_of_ble_eq_true rfl, Nat.le_of_ble_eq_true rfl⟩) hS (fun q _ h => hF q h) hF (fun u_22 t_21 H_19 locs_20 ht hvm hr_18 hB hz1 hk1 hS => ?_)
          obtain ⟨o2_23, q2_24, g1_25, g2_26, g3_27, p5, m5⟩ := u_22
          dsimp only at hr_18 hB
          replace hB : va_P D vwCl [(mo, .inr (9, [.int (nI 0), .int (nI (n + 1)), .ref mw, .ref mct, .ref mp, .ref mnm, .ref m1, .ref m2, .int o2_23, .int q2_24, .ref mt, .ref mk, .ref mr, .ref ml, .ref mq])), (m1, .inl (k5, 11, .inl g1_25)), (m2, .inl (k6, 11, .inl g2_26)), (mt, .inl (k7, 121, .inl g3_27)), (mw, .inl (k1, 40, .inr (.inl (fun k9 => lN (va_up wd n a k9))))), (mct, .inl (k2, 40, .inl (fun k9 => nI (va_up ct n 0 k9)))), (mp, .inl (k3, 40, .inl (fun k9 => pin (p5 k9)))), (mnm, .inl (k4, 40, .inl (fun k9 => nI (m5 k9))))] H_19 := by rw [← ht]; exact hB
          obtain ⟨hP, hD⟩ := q_join (wc := [(mo, .inr (9, [.int (nI 0), .int (nI n), .ref mw, .ref mct, .ref mp, .ref mnm, .ref m1, .ref m2, .int om, .int tm, .ref mt, .ref mk, .ref mr, .ref ml, .ref mq])), (m1, .inl (k5, 11, .inl f1)), (m2, .inl (k6, 11, .inl f2)), (mt, .inl (k7, 121, .inl ft)), (mw, .inl (k1, 40, .inr (.inl (fun k9 => lN (wd k9))))), (mct, .inl (k2, 40, .inl (fun k9 => nI (ct k9)))), (mp, .inl (k3, 40, .inl (fun k9 => pin (pa k9)))), (mnm, .inl (k4, 40, .inl (fun k9 => nI (nm k9))))]) (w1 := [(mo, .inr (9, [.int (nI 0), .int (nI (n + 1)), .ref mw, .ref mct, .ref mp, .ref mnm, .ref m1, .ref m2, .int o2_23, .int q2_24, .ref mt, .ref mk, .ref mr, .ref ml, .ref mq])), (m1, .inl (k5, 11, .inl g1_25)), (m2, .inl (k6, 11, .inl g2_26)), (mt, .inl (k7, 121, .inl g3_27)), (mw, .inl (k1, 40, .inr (.inl (fun k9 => lN (va_up wd n a k9))))), (mct, .inl (k2, 40, .inl (fun k9 => nI (va_up ct n 0 k9)))), (mp, .inl (k3, 40, .inl (fun k9 => pin (p5 k9)))), (mnm, .inl (k4, 40, .inl (fun k9 => nI (m5 k9))))]) (ws' := [(mo, .inr (9, [.int (nI 0), .int (nI (n + 1)), .ref mw, .ref mct, .ref mp, .ref mnm, .ref m1, .ref m2, .int o2_23, .int q2_24, .ref mt, .ref mk, .ref mr, .ref ml, .ref mq])), (m1, .inl (k5, 11, .inl g1_25)), (m2, .inl (k6, 11, .inl g2_26)), (mt, .inl (k7, 121, .inl g3_27)), (mw, .inl (k1, 40, .inr (.inl (fun k9 => lN (va_up wd n a k9))))), (mct, .inl (k2, 40, .inl (fun k9 => nI (va_up ct n 0 k9)))), (mp, .inl (k3, 40, .inl (fun k9 => pin (p5 k9)))), (mnm, .inl (k4, 40, .inl (fun k9 => nI (m5 k9))))]) [0, 1, 2, 3, 4, 5, 6, 7] hP hD rfl rfl hk1 hB rfl
          have hR := q_ro hR0 hna hS
          obtain ⟨hpl0, hpl1, hpl2⟩ := hr_18
          refine lv_aload_n hx hb dX10_add_131 rfl (lv_at hl 3 rfl) ?_
          refine va_get (D := D) (own := RX10) (ref := "FuzzyFensModel") (ci := 9) (v := .ref mct) (C := RX10) (T := TX10) (N := 15) hx hb hts iX10_add_X10 hown hK hP 0 rfl rfl 3 (by decide) (hts (.fieldLink RX10 13 "FuzzyFensModel" "counts" "[I") (List.mem_of_getElem? (i := 2) rfl)) (fun _ h9 => h9) rfl dX10_add_132 ?_
          refine lv_iload hx hb dX10_add_135 (lv_at hl 0 rfl) ?_
          refine lv_dup2_11 hx hb dX10_add_137 rfl rfl ?_
          refine va_iald (D := D) hx hb hK hP 5 4 rfl rfl (vp_in_nI (n := n) (N := 40) (by omega) (by decide)) dX10_add_138 ?_
          rw [nI_clamp (n := n) (by omega)]
          refine q_cvi (show (fun k9 => nI (va_up ct n 0 k9)) n = nI ((va_up ct n 0) n) from rfl) ?_
          refine q_cvi (show (nI ((va_up ct n 0) n)) = (nI 0) from (by rw [q_ups])) ?_
          refine lv_iload_n hx hb dX10_add_139 rfl (lv_at hl 5 rfl) ?_
          refine q_iadd (d := kz x9) hx hb dX10_add_140 (by omega) ?_
          refine va_iast (D := D) hx hb hK hP hD hS 5 4 rfl rfl (vp_in_nI (n := n) (N := 40) (by omega) (by decide)) dX10_add_141 (fun H_28 locs_29 hP hD hS => ?_)
          rw [nI_clamp (n := n) (by omega)] at hP hD
          rw [q_upf_nI] at hP hD
          have hP : va_P D vwCl [(mo, .inr (9, [.int (nI 0), .int (nI (n + 1)), .ref mw, .ref mct, .ref mp, .ref mnm, .ref m1, .ref m2, .int o2_23, .int q2_24, .ref mt, .ref mk, .ref mr, .ref ml, .ref mq])), (m1, .inl (k5, 11, .inl g1_25)), (m2, .inl (k6, 11, .inl g2_26)), (mt, .inl (k7, 121, .inl g3_27)), (mw, .inl (k1, 40, .inr (.inl (fun k9 => lN (va_up wd n a k9))))), (mct, .inl (k2, 40, .inl (fun k9 => nI ((va_up (va_up ct n 0) n (kz x9)) k9)))), (mp, .inl (k3, 40, .inl (fun k9 => pin (p5 k9)))), (mnm, .inl (k4, 40, .inl (fun k9 => nI (m5 k9))))] H_28 := hP
          have hD : va_D A [(mo, .inr (9, [.int (nI 0), .int (nI (n + 1)), .ref mw, .ref mct, .ref mp, .ref mnm, .ref m1, .ref m2, .int o2_23, .int q2_24, .ref mt, .ref mk, .ref mr, .ref ml, .ref mq])), (m1, .inl (k5, 11, .inl g1_25)), (m2, .inl (k6, 11, .inl g2_26)), (mt, .inl (k7, 121, .inl g3_27)), (mw, .inl (k1, 40, .inr (.inl (fun k9 => lN (va_up wd n a k9))))), (mct, .inl (k2, 40, .inl (fun k9 => nI ((va_up (va_up ct n 0) n (kz x9)) k9)))), (mp, .inl (k3, 40, .inl (fun k9 => pin (p5 k9)))), (mnm, .inl (k4, 40, .inl (fun k9 => nI (m5 k9))))] := hD
          have hR := q_ro hR0 hna hS
          refine lv_aload_n hx hb dX10_add_142 rfl (lv_at hl 3 rfl) ?_
          refine va_get (D := D) (own := RX10) (ref := "FuzzyFensModel") (ci := 9) (v := .ref mct) (C := RX10) (T := TX10) (N := 15) hx hb hts iX10_add_X10 hown hK hP 0 rfl rfl 3 (by decide) (hts (.fieldLink RX10 13 "FuzzyFensModel" "counts" "[I") (List.mem_of_getElem? (i := 2) rfl)) (fun _ h9 => h9) rfl dX10_add_143 ?_
          refine lv_iload hx hb dX10_add_146 (lv_at hl 0 rfl) ?_
          refine va_iald (D := D) hx hb hK hP 5 4 rfl rfl (vp_in_nI (n := n) (N := 40) (by omega) (by decide)) dX10_add_148 ?_
          rw [nI_clamp (n := n) (by omega)]
          refine q_cvi (show (fun k9 => nI ((va_up (va_up ct n 0) n (kz x9)) k9)) n = nI ((va_up (va_up ct n 0) n (kz x9)) n) from rfl) ?_
          exact W.iret (v := nI ((va_up (va_up ct n 0) n (kz x9)) n)) hx hb hr (fun t9 ht hW => ⟨⟨nI ((va_up (va_up ct n 0) n (kz x9)) n), (nI 0, n + 1, o2_23, q2_24, g1_25, g2_26, g3_27, va_up wd n a, (va_up (va_up ct n 0) n (kz x9)), p5, m5), rfl, (Or.inr (Or.inr (Or.inl ⟨hok, c_45, by omega, rfl, by rw [q_ups], rfl, fun k hk => q_upn (by omega), q_ups, fun k hk => (by show va_up (va_up ct n 0) n (kz x9) k = ct k; rw [q_upn (by omega), q_upn (by omega)]), q_ups, hpl0, hpl1, hpl2⟩))), by show va_P D vwCl _ t9.heap; rw [ht]; exact hP⟩, hS.F ht⟩) hS.2.2 dX10_add_149
        · skip
          refine lv_iconst (v := nI 1) hx hb dX10_add_57 (by decide) ?_
          refine lv_goto (tgt := 84) hx hb dX10_add_58 (by decide) ?_
          refine lv_istore (lv' := [(6, .int (nI 1)), (5, .int ((-1))), (4, .int (nI 1)), (0, .ref mo), (1, .long (lN a)), (3, .int (nI (kz x9)))]) hx hb dX10_add_84 hl (by decide) rfl (fun ls hl => ?_)
          refine lv_aload_n hx hb dX10_add_86 rfl (lv_at hl 3 rfl) ?_
          refine lv_iload hx hb dX10_add_87 (lv_at hl 2 rfl) ?_
          refine lv_if_ne (tgt := 96) hx hb dX10_add_89 (by decide) (fun _ => ?_) (fun c9 => absurd c9 (by decide))
          refine lv_iload hx hb dX10_add_96 (lv_at hl 0 rfl) ?_
          refine lv_if_eq (tgt := 105) hx hb dX10_add_98 (by decide) (fun c9 => absurd c9 (by decide)) (fun _ => ?_)
          refine lv_iconst (v := nI 2) hx hb dX10_add_101 (by decide) ?_
          refine lv_goto (tgt := 106) hx hb dX10_add_102 (by decide) ?_
          have hF := va_free (wc := [(mo, .inr (9, [.int th, .int (nI n), .ref mw, .ref mct, .ref mp, .ref mnm, .ref m1, .ref m2, .int om, .int tm, .ref mt, .ref mk, .ref mr, .ref ml, .ref mq]))]) hD hS hA [0] rfl
          refine va_calli (va_runV (As := [.int (nI 2)]) (rest := []) ⟨hx, hb, hml, hown, hts⟩ (c_X10_goesWell (l := l) (D := D) (mo := mo) (mw := mw) (mct := mct) (mp := mp) (mnm := mnm) (m1 := m1) (m2 := m2) (mt := mt) (mk := mk) (mr := mr) (ml := ml) (mq := mq) (th := th) (n := n) (om := om) (tm := tm) (x9 := 2) (sz := s.heap.size) (hnd := (q_nds hnd [0] rfl rfl)) (hx9 := by omega)) (cwV 1 hts gX10_add_X10_goesWell rfl rfl rfl (by decide +kernel) ⟨Nat.le_of_ble_eq_true rfl, Nat.le_of_ble_eq_true rfl⟩) ⟨qW_blind, (va_recv hK hP (ci := 9) (q0 := 0) rfl rfl), (qW_of (q_Pof (fun _ h => absurd h List.not_mem_nil)) (hP.sub (ws' := [(mo, .inr (9, [.int th, .int (nI n), .ref mw, .ref mct, .ref mp, .ref mnm, .ref m1, .ref m2, .int om, .int tm, .ref mt, .ref mk, .ref mr, .ref ml, .ref mq]))]) [0] rfl) (hK.sub (tys' := []) [] rfl) hNw)⟩ rfl rfl hl.1 rfl (lv_room (Nat.le_of_ble_eq_true rfl)) dX10_add_106 ⟨Nat.le_of_ble_eq_true rfl, Nat.le_of_ble_eq_true rfl⟩) hS (fun q _ h => hF q h) hF (fun r_30 u_34 t_33 H_31 locs_32 ht hvm hr_30 hB hz1 hk1 hS => ?_)
          replace hB : va_P D vwCl [(mo, .inr (9, [.int (nI 2), .int (nI n), .ref mw, .ref mct, .ref mp, .ref mnm, .ref m1, .ref m2, .int om, .int tm, .ref mt, .ref mk, .ref mr, .ref ml, .ref mq]))] H_31 := by rw [← ht]; exact hB
          obtain ⟨hP, hD⟩ := q_join (wc := [(mo, .inr (9, [.int th, .int (nI n), .ref mw, .ref mct, .ref mp, .ref mnm, .ref m1, .ref m2, .int om, .int tm, .ref mt, .ref mk, .ref mr, .ref ml, .ref mq]))]) (w1 := [(mo, .inr (9, [.int (nI 2), .int (nI n), .ref mw, .ref mct, .ref mp, .ref mnm, .ref m1, .ref m2, .int om, .int tm, .ref mt, .ref mk, .ref mr, .ref ml, .ref mq]))]) (ws' := [(mo, .inr (9, [.int (nI 2), .int (nI n), .ref mw, .ref mct, .ref mp, .ref mnm, .ref m1, .ref m2, .int om, .int tm, .ref mt, .ref mk, .ref mr, .ref ml, .ref mq])), (m1, .inl (k5, 11, .inl f1)), (m2, .inl (k6, 11, .inl f2)), (mt, .inl (k7, 121, .inl ft)), (mw, .inl (k1, 40, .inr (.inl (fun k9 => lN (wd k9))))), (mct, .inl (k2, 40, .inl (fun k9 => nI (ct k9)))), (mp, .inl (k3, 40, .inl (fun k9 => pin (pa k9)))), (mnm, .inl (k4, 40, .inl (fun k9 => nI (nm k9))))]) [0] hP hD rfl rfl hk1 hB rfl
          have hR := q_ro hR0 hna hS
          subst hr_30
          refine q_ifb_ne (tgt := 114) hx hb dX10_add_109 (by decide) (fun c9 => absurd c9 (by decide)) (fun _ => ?_)
          refine lv_iconst (v := nI 0) hx hb dX10_add_112 (by decide) ?_
          exact W.iret (v := nI 0) hx hb hr (fun t9 ht hW => ⟨⟨nI 0, (nI 2, n, om, tm, f1, f2, ft, wd, ct, pa, nm), rfl, (Or.inr (Or.inl ⟨hok, rfl, Or.inl ⟨c_45, by omega⟩, rfl, rfl, rfl, rfl, rfl⟩)), by show va_P D vwCl _ t9.heap; rw [ht]; exact hP⟩, hS.F ht⟩) hS.2.2 dX10_add_113
      · skip
        have hi7 := (ffi_some c_45).1
        have hc7 := hcm i7 hi7
        have hl : lv_has ls 7 [(5, .int (nI i7)), (4, .int (nI 1)), (0, .ref mo), (1, .long (lN a)), (3, .int (nI (kz x9)))] := by rw [c_45] at hl; exact hl
        refine lv_aload_n hx hb dX10_add_65 rfl (lv_at hl 2 rfl) ?_
        refine va_get (D := D) (own := RX10) (ref := "FuzzyFensModel") (ci := 9) (v := .ref mct) (C := RX10) (T := TX10) (N := 15) hx hb hts iX10_add_X10 hown hK hP 0 rfl rfl 3 (by decide) (hts (.fieldLink RX10 13 "FuzzyFensModel" "counts" "[I") (List.mem_of_getElem? (i := 2) rfl)) (fun _ h9 => h9) rfl dX10_add_66 ?_
        refine lv_iload hx hb dX10_add_69 (lv_at hl 0 rfl) ?_
        refine va_iald (D := D) hx hb hK hP 5 4 rfl rfl (vp_in_nI (n := i7) (N := 40) (by omega) (by decide)) dX10_add_71 ?_
        rw [nI_clamp (n := i7) (by omega)]
        refine q_cvi (show (fun k9 => nI (ct k9)) i7 = nI (ct i7) from rfl) ?_
        refine lv_iload_n hx hb dX10_add_72 rfl (lv_at hl 4 rfl) ?_
        refine q_iadd (d := ct i7 + kz x9) hx hb dX10_add_73 (by omega) ?_
        refine lv_ldc (v := 1000000) hx hb hown (hts (.constant RX10 91 (1000000)) (List.mem_of_getElem? (i := 3) rfl)) dX10_add_74 ?_
        refine q_cvi (show (1000000 : Int32) = nI 1000000 by decide) ?_
        refine q_icmp_le (a := ct i7 + kz x9) (b := 1000000) (tgt := 83) hx hb dX10_add_76 (by decide) (by omega) (by omega) (fun c_76 => ?_) (fun c_76 => ?_)
        · skip
          refine lv_iconst (v := nI 0) hx hb dX10_add_83 (by decide) ?_
          refine lv_istore (lv' := [(6, .int (nI 0)), (5, .int (nI i7)), (4, .int (nI 1)), (0, .ref mo), (1, .long (lN a)), (3, .int (nI (kz x9)))]) hx hb dX10_add_84 hl (by decide) rfl (fun ls hl => ?_)
          refine lv_aload_n hx hb dX10_add_86 rfl (lv_at hl 3 rfl) ?_
          refine lv_iload hx hb dX10_add_87 (lv_at hl 2 rfl) ?_
          refine lv_if_ne (tgt := 96) hx hb dX10_add_89 (by decide) (fun _ => ?_) (fun c9 => absurd c9 (by decide))
          refine lv_iload hx hb dX10_add_96 (lv_at hl 0 rfl) ?_
          refine lv_if_eq (tgt := 105) hx hb dX10_add_98 (by decide) (fun _ => ?_) (fun c9 => absurd (by decide) c9)
          refine lv_iconst (v := nI 0) hx hb dX10_add_105 (by decide) ?_
          have hF := va_free (wc := [(mo, .inr (9, [.int th, .int (nI n), .ref mw, .ref mct, .ref mp, .ref mnm, .ref m1, .ref m2, .int om, .int tm, .ref mt, .ref mk, .ref mr, .ref ml, .ref mq]))]) hD hS hA [0] rfl
          refine va_calli (va_runV (As := [.int (nI 0)]) (rest := []) ⟨hx, hb, hml, hown, hts⟩ (c_X10_goesWell (l := l) (D := D) (mo := mo) (mw := mw) (mct := mct) (mp := mp) (mnm := mnm) (m1 := m1) (m2 := m2) (mt := mt) (mk := mk) (mr := mr) (ml := ml) (mq := mq) (th := th) (n := n) (om := om) (tm := tm) (x9 := 0) (sz := s.heap.size) (hnd := (q_nds hnd [0] rfl rfl)) (hx9 := by omega)) (cwV 1 hts gX10_add_X10_goesWell rfl rfl rfl (by decide +kernel) ⟨Nat.le_of_ble_eq_true rfl, Nat.le_of_ble_eq_true rfl⟩) ⟨qW_blind, (va_recv hK hP (ci := 9) (q0 := 0) rfl rfl), (qW_of (q_Pof (fun _ h => absurd h List.not_mem_nil)) (hP.sub (ws' := [(mo, .inr (9, [.int th, .int (nI n), .ref mw, .ref mct, .ref mp, .ref mnm, .ref m1, .ref m2, .int om, .int tm, .ref mt, .ref mk, .ref mr, .ref ml, .ref mq]))]) [0] rfl) (hK.sub (tys' := []) [] rfl) hNw)⟩ rfl rfl hl.1 rfl (lv_room (Nat.le_of_ble_eq_true rfl)) dX10_add_106 ⟨Nat.le_of_ble_eq_true rfl, Nat.le_of_ble_eq_true rfl⟩) hS (fun q _ h => hF q h) hF (fun r_35 u_39 t_38 H_36 locs_37 ht hvm hr_35 hB hz1 hk1 hS => ?_)
          replace hB : va_P D vwCl [(mo, .inr (9, [.int (nI 0), .int (nI n), .ref mw, .ref mct, .ref mp, .ref mnm, .ref m1, .ref m2, .int om, .int tm, .ref mt, .ref mk, .ref mr, .ref ml, .ref mq]))] H_36 := by rw [← ht]; exact hB
          obtain ⟨hP, hD⟩ := q_join (wc := [(mo, .inr (9, [.int th, .int (nI n), .ref mw, .ref mct, .ref mp, .ref mnm, .ref m1, .ref m2, .int om, .int tm, .ref mt, .ref mk, .ref mr, .ref ml, .ref mq]))]) (w1 := [(mo, .inr (9, [.int (nI 0), .int (nI n), .ref mw, .ref mct, .ref mp, .ref mnm, .ref m1, .ref m2, .int om, .int tm, .ref mt, .ref mk, .ref mr, .ref ml, .ref mq]))]) (ws' := [(mo, .inr (9, [.int (nI 0), .int (nI n), .ref mw, .ref mct, .ref mp, .ref mnm, .ref m1, .ref m2, .int om, .int tm, .ref mt, .ref mk, .ref mr, .ref ml, .ref mq])), (m1, .inl (k5, 11, .inl f1)), (m2, .inl (k6, 11, .inl f2)), (mt, .inl (k7, 121, .inl ft)), (mw, .inl (k1, 40, .inr (.inl (fun k9 => lN (wd k9))))), (mct, .inl (k2, 40, .inl (fun k9 => nI (ct k9)))), (mp, .inl (k3, 40, .inl (fun k9 => pin (pa k9)))), (mnm, .inl (k4, 40, .inl (fun k9 => nI (nm k9))))]) [0] hP hD rfl rfl hk1 hB rfl
          have hR := q_ro hR0 hna hS
          subst hr_35
          refine q_ifb_ne (tgt := 114) hx hb dX10_add_109 (by decide) (fun _ => ?_) (fun c9 => absurd (by decide) c9)
          refine lv_iload hx hb dX10_add_114 (lv_at hl 1 rfl) ?_
          refine lv_iconst (v := (-1)) hx hb dX10_add_116 (by decide) ?_
          refine lv_icmp_ne (tgt := 131) hx hb dX10_add_117 (by decide) (fun _ => ?_) (fun c9 => absurd c9 (nI_nm1 (by omega)))
          refine lv_aload_n hx hb dX10_add_131 rfl (lv_at hl 3 rfl) ?_
          refine va_get (D := D) (own := RX10) (ref := "FuzzyFensModel") (ci := 9) (v := .ref mct) (C := RX10) (T := TX10) (N := 15) hx hb hts iX10_add_X10 hown hK hP 0 rfl rfl 3 (by decide) (hts (.fieldLink RX10 13 "FuzzyFensModel" "counts" "[I") (List.mem_of_getElem? (i := 2) rfl)) (fun _ h9 => h9) rfl dX10_add_132 ?_
          refine lv_iload hx hb dX10_add_135 (lv_at hl 1 rfl) ?_
          refine lv_dup2_11 hx hb dX10_add_137 rfl rfl ?_
          refine va_iald (D := D) hx hb hK hP 5 4 rfl rfl (vp_in_nI (n := i7) (N := 40) (by omega) (by decide)) dX10_add_138 ?_
          rw [nI_clamp (n := i7) (by omega)]
          refine q_cvi (show (fun k9 => nI (ct k9)) i7 = nI (ct i7) from rfl) ?_
          refine lv_iload_n hx hb dX10_add_139 rfl (lv_at hl 5 rfl) ?_
          refine q_iadd (d := ct i7 + kz x9) hx hb dX10_add_140 (by omega) ?_
          refine va_iast (D := D) hx hb hK hP hD hS 5 4 rfl rfl (vp_in_nI (n := i7) (N := 40) (by omega) (by decide)) dX10_add_141 (fun H_40 locs_41 hP hD hS => ?_)
          rw [nI_clamp (n := i7) (by omega)] at hP hD
          rw [q_upf_nI] at hP hD
          have hP : va_P D vwCl [(mo, .inr (9, [.int (nI 0), .int (nI n), .ref mw, .ref mct, .ref mp, .ref mnm, .ref m1, .ref m2, .int om, .int tm, .ref mt, .ref mk, .ref mr, .ref ml, .ref mq])), (m1, .inl (k5, 11, .inl f1)), (m2, .inl (k6, 11, .inl f2)), (mt, .inl (k7, 121, .inl ft)), (mw, .inl (k1, 40, .inr (.inl (fun k9 => lN (wd k9))))), (mct, .inl (k2, 40, .inl (fun k9 => nI ((va_up ct i7 (ct i7 + kz x9)) k9)))), (mp, .inl (k3, 40, .inl (fun k9 => pin (pa k9)))), (mnm, .inl (k4, 40, .inl (fun k9 => nI (nm k9))))] H_40 := hP
          have hD : va_D A [(mo, .inr (9, [.int (nI 0), .int (nI n), .ref mw, .ref mct, .ref mp, .ref mnm, .ref m1, .ref m2, .int om, .int tm, .ref mt, .ref mk, .ref mr, .ref ml, .ref mq])), (m1, .inl (k5, 11, .inl f1)), (m2, .inl (k6, 11, .inl f2)), (mt, .inl (k7, 121, .inl ft)), (mw, .inl (k1, 40, .inr (.inl (fun k9 => lN (wd k9))))), (mct, .inl (k2, 40, .inl (fun k9 => nI ((va_up ct i7 (ct i7 + kz x9)) k9)))), (mp, .inl (k3, 40, .inl (fun k9 => pin (pa k9)))), (mnm, .inl (k4, 40, .inl (fun k9 => nI (nm k9))))] := hD
          have hR := q_ro hR0 hna hS
          refine lv_aload_n hx hb dX10_add_142 rfl (lv_at hl 3 rfl) ?_
          refine va_get (D := D) (own := RX10) (ref := "FuzzyFensModel") (ci := 9) (v := .ref mct) (C := RX10) (T := TX10) (N := 15) hx hb hts iX10_add_X10 hown hK hP 0 rfl rfl 3 (by decide) (hts (.fieldLink RX10 13 "FuzzyFensModel" "counts" "[I") (List.mem_of_getElem? (i := 2) rfl)) (fun _ h9 => h9) rfl dX10_add_143 ?_
          refine lv_iload hx hb dX10_add_146 (lv_at hl 1 rfl) ?_
          refine va_iald (D := D) hx hb hK hP 5 4 rfl rfl (vp_in_nI (n := i7) (N := 40) (by omega) (by decide)) dX10_add_148 ?_
          rw [nI_clamp (n := i7) (by omega)]
          refine q_cvi (show (fun k9 => nI ((va_up ct i7 (ct i7 + kz x9)) k9)) i7 = nI ((va_up ct i7 (ct i7 + kz x9)) i7) from rfl) ?_
          exact W.iret (v := nI ((va_up ct i7 (ct i7 + kz x9)) i7)) hx hb hr (fun t9 ht hW => ⟨⟨nI ((va_up ct i7 (ct i7 + kz x9)) i7), (nI 0, n, om, tm, f1, f2, ft, wd, (va_up ct i7 (ct i7 + kz x9)), pa, nm), rfl, (Or.inr (Or.inr (Or.inr ⟨hok, i7, c_45, by omega, rfl, by rw [q_ups], rfl, rfl, rfl, rfl, rfl⟩))), by show va_P D vwCl _ t9.heap; rw [ht]; exact hP⟩, hS.F ht⟩) hS.2.2 dX10_add_149
        · skip
          refine lv_iconst (v := nI 1) hx hb dX10_add_79 (by decide) ?_
          refine lv_goto (tgt := 84) hx hb dX10_add_80 (by decide) ?_
          refine lv_istore (lv' := [(6, .int (nI 1)), (5, .int (nI i7)), (4, .int (nI 1)), (0, .ref mo), (1, .long (lN a)), (3, .int (nI (kz x9)))]) hx hb dX10_add_84 hl (by decide) rfl (fun ls hl => ?_)
          refine lv_aload_n hx hb dX10_add_86 rfl (lv_at hl 3 rfl) ?_
          refine lv_iload hx hb dX10_add_87 (lv_at hl 2 rfl) ?_
          refine lv_if_ne (tgt := 96) hx hb dX10_add_89 (by decide) (fun _ => ?_) (fun c9 => absurd c9 (by decide))
          refine lv_iload hx hb dX10_add_96 (lv_at hl 0 rfl) ?_
          refine lv_if_eq (tgt := 105) hx hb dX10_add_98 (by decide) (fun c9 => absurd c9 (by decide)) (fun _ => ?_)
          refine lv_iconst (v := nI 2) hx hb dX10_add_101 (by decide) ?_
          refine lv_goto (tgt := 106) hx hb dX10_add_102 (by decide) ?_
          have hF := va_free (wc := [(mo, .inr (9, [.int th, .int (nI n), .ref mw, .ref mct, .ref mp, .ref mnm, .ref m1, .ref m2, .int om, .int tm, .ref mt, .ref mk, .ref mr, .ref ml, .ref mq]))]) hD hS hA [0] rfl
          refine va_calli (va_runV (As := [.int (nI 2)]) (rest := []) ⟨hx, hb, hml, hown, hts⟩ (c_X10_goesWell (l := l) (D := D) (mo := mo) (mw := mw) (mct := mct) (mp := mp) (mnm := mnm) (m1 := m1) (m2 := m2) (mt := mt) (mk := mk) (mr := mr) (ml := ml) (mq := mq) (th := th) (n := n) (om := om) (tm := tm) (x9 := 2) (sz := s.heap.size) (hnd := (q_nds hnd [0] rfl rfl)) (hx9 := by omega)) (cwV 1 hts gX10_add_X10_goesWell rfl rfl rfl (by decide +kernel) ⟨Nat.le_of_ble_eq_true rfl, Nat.le_of_ble_eq_true rfl⟩) ⟨qW_blind, (va_recv hK hP (ci := 9) (q0 := 0) rfl rfl), (qW_of (q_Pof (fun _ h => absurd h List.not_mem_nil)) (hP.sub (ws' := [(mo, .inr (9, [.int th, .int (nI n), .ref mw, .ref mct, .ref mp, .ref mnm, .ref m1, .ref m2, .int om, .int tm, .ref mt, .ref mk, .ref mr, .ref ml, .ref mq]))]) [0] rfl) (hK.sub (tys' := []) [] rfl) hNw)⟩ rfl rfl hl.1 rfl (lv_room (Nat.le_of_ble_eq_true rfl)) dX10_add_106 ⟨Nat.le_of_ble_eq_true rfl, Nat.le_of_ble_eq_true rfl⟩) hS (fun q _ h => hF q h) hF (fun r_42 u_46 t_45 H_43 locs_44 ht hvm hr_42 hB hz1 hk1 hS => ?_)
          replace hB : va_P D vwCl [(mo, .inr (9, [.int (nI 2), .int (nI n), .ref mw, .ref mct, .ref mp, .ref mnm, .ref m1, .ref m2, .int om, .int tm, .ref mt, .ref mk, .ref mr, .ref ml, .ref mq]))] H_43 := by rw [← ht]; exact hB
          obtain ⟨hP, hD⟩ := q_join (wc := [(mo, .inr (9, [.int th, .int (nI n), .ref mw, .ref mct, .ref mp, .ref mnm, .ref m1, .ref m2, .int om, .int tm, .ref mt, .ref mk, .ref mr, .ref ml, .ref mq]))]) (w1 := [(mo, .inr (9, [.int (nI 2), .int (nI n), .ref mw, .ref mct, .ref mp, .ref mnm, .ref m1, .ref m2, .int om, .int tm, .ref mt, .ref mk, .ref mr, .ref ml, .ref mq]))]) (ws' := [(mo, .inr (9, [.int (nI 2), .int (nI n), .ref mw, .ref mct, .ref mp, .ref mnm, .ref m1, .ref m2, .int om, .int tm, .ref mt, .ref mk, .ref mr, .ref ml, .ref mq])), (m1, .inl (k5, 11, .inl f1)), (m2, .inl (k6, 11, .inl f2)), (mt, .inl (k7, 121, .inl ft)), (mw, .inl (k1, 40, .inr (.inl (fun k9 => lN (wd k9))))), (mct, .inl (k2, 40, .inl (fun k9 => nI (ct k9)))), (mp, .inl (k3, 40, .inl (fun k9 => pin (pa k9)))), (mnm, .inl (k4, 40, .inl (fun k9 => nI (nm k9))))]) [0] hP hD rfl rfl hk1 hB rfl
          have hR := q_ro hR0 hna hS
          subst hr_42
          refine q_ifb_ne (tgt := 114) hx hb dX10_add_109 (by decide) (fun c9 => absurd c9 (by decide)) (fun _ => ?_)
          refine lv_iconst (v := nI 0) hx hb dX10_add_112 (by decide) ?_
          exact W.iret (v := nI 0) hx hb hr (fun t9 ht hW => ⟨⟨nI 0, (nI 2, n, om, tm, f1, f2, ft, wd, ct, pa, nm), rfl, (Or.inr (Or.inl ⟨hok, rfl, Or.inr ⟨i7, c_45, by omega⟩, rfl, rfl, rfl, rfl, rfl⟩)), by show va_P D vwCl _ t9.heap; rw [ht]; exact hP⟩, hS.F ht⟩) hS.2.2 dX10_add_113
  · intro hcut_24
    refine q_ifb_eq (tgt := 23) hx hb dX10_add_4 (by decide) (fun c_4 => ?_) (fun c_4 => ?_)
    · skip
      refine lv_iconst (v := nI 0) hx hb dX10_add_23 (by decide) ?_
      exact hcut_24 0 _ _ _ _ ⟨(by omega), ⟨fun h9 => by omega, fun h9 => absurd h9.1 c_4⟩, rfl, rfl, (lv_sub hl [0, 1, 2] rfl), rfl⟩
    · skip
      refine lv_iload_n hx hb dX10_add_7 rfl (lv_at hl 2 rfl) ?_
      refine lv_iconst (v := nI 1) hx hb dX10_add_8 (by decide) ?_
      refine lv_icmp_lt (tgt := 23) hx hb dX10_add_9 (by decide) (fun c_9 => ?_) (fun c_9 => ?_)
      · skip
        refine lv_iconst (v := nI 0) hx hb dX10_add_23 (by decide) ?_
        exact hcut_24 0 _ _ _ _ ⟨(by omega), ⟨fun h9 => by omega, fun h9 => absurd h9.2.1 (i_nle c_9)⟩, rfl, rfl, (lv_sub hl [0, 1, 2] rfl), rfl⟩
      · skip
        refine lv_iload_n hx hb dX10_add_12 rfl (lv_at hl 2 rfl) ?_
        refine lv_sipush (v := nI 1000) hx hb dX10_add_13 (by decide) ?_
        refine lv_icmp_gt (tgt := 23) hx hb dX10_add_16 (by decide) (fun c_16 => ?_) (fun c_16 => ?_)
        · skip
          refine lv_iconst (v := nI 0) hx hb dX10_add_23 (by decide) ?_
          exact hcut_24 0 _ _ _ _ ⟨(by omega), ⟨fun h9 => by omega, fun h9 => absurd h9.2.2 (i_nle c_16)⟩, rfl, rfl, (lv_sub hl [0, 1, 2] rfl), rfl⟩
        · skip
          refine lv_iconst (v := nI 1) hx hb dX10_add_19 (by decide) ?_
          refine lv_goto (tgt := 24) hx hb dX10_add_20 (by decide) ?_
          exact hcut_24 1 _ _ _ _ ⟨(by omega), ⟨fun _ => ⟨c_4, i_le c_9, i_le c_16⟩, fun _ => rfl⟩, rfl, rfl, (lv_sub hl [0, 1, 2] rfl), rfl⟩

set_option maxRecDepth 20000 in
theorem iX10_forget_X10 : ∀ w ∈ wsX100, w ∈ wsX10_forget := by decide +kernel
set_option maxHeartbeats 4000000 in
set_option maxRecDepth 100000 in
/-- forget -/
theorem c_X10_forget (l : Launch) (D : va_G) (sz : Nat) (mo : Nat) (mw : Nat) (mct : Nat) (mp : Nat) (mnm : Nat) (m1 : Nat) (m2 : Nat) (mt : Nat) (mk : Nat) (mr : Nat) (ml : Nat) (mq : Nat) (k1 : ClassId) (k2 : ClassId) (th : Int32) (n : Nat) (om : Int32) (tm : Int32) (wd : Nat → Nat) (ct : Nat → Nat) (a : Nat) (hnd : ([mo, mct] ++ [mw]).Nodup) (ha : a < 2 ^ 64) (hn40 : n ≤ 40) (hgw : ∀ k, k < n → gw (wd k)) (hinj : ∀ i j, i < n → j < n → wd i = wd j → i = j) (hcb : ∀ k, k < n → ct k < 2 ^ 31) : Met l yX10_forget wsX10_forget { frames := 2, cells := 0, slots := 0, locals := 48 } (va_Pc [.ref mo, .long (lN a)] (qW D sz ([(mw, .inl (k1, 40, .inr (.inl (fun k9 => lN (wd k9)))))]) [(mo, .inr (9, [.int th, .int (nI n), .ref mw, .ref mct, .ref mp, .ref mnm, .ref m1, .ref m2, .int om, .int tm, .ref mt, .ref mk, .ref mr, .ref ml, .ref mq])), (mct, .inl (k2, 40, .inl (fun k9 => nI (ct k9))))] [(k2, .int), (k1, .long)])) (va_Qi (fun (rv : Int32) (uv : (Int32) × (Nat → Nat)) => ((¬ gw a ∧ uv.1 = nI 1 ∧ uv.2 = ct) ∨ (gw a ∧ (∀ i, ffi (fun k => decide (wd k = a)) n = some i → ct i = 0) ∧ uv.1 = nI 2 ∧ uv.2 = ct) ∨ (gw a ∧ (∃ i, ffi (fun k => decide (wd k = a)) n = some i ∧ 0 < ct i ∧ uv.1 = nI 0 ∧ rv = nI (ct i) ∧ uv.2 = va_up ct i 0)))) (fun (uv : (Int32) × (Nat → Nat)) (tv : State) => va_P D vwCl [(mo, .inr (9, [.int uv.1, .int (nI n), .ref mw, .ref mct, .ref mp, .ref mnm, .ref m1, .ref m2, .int om, .int tm, .ref mt, .ref mk, .ref mr, .ref ml, .ref mq])), (mct, .inl (k2, 40, .inl (fun k9 => nI (uv.2 k9))))] tv.heap) (va_A [(mo, .inr (9, [.int th, .int (nI n), .ref mw, .ref mct, .ref mp, .ref mnm, .ref m1, .ref m2, .int om, .int tm, .ref mt, .ref mk, .ref mr, .ref ml, .ref mq])), (mct, .inl (k2, 40, .inl (fun k9 => nI (ct k9))))] sz)) 0 0 (va_A [(mo, .inr (9, [.int th, .int (nI n), .ref mw, .ref mct, .ref mp, .ref mnm, .ref m1, .ref m2, .int om, .int tm, .ref mt, .ref mk, .ref mr, .ref ml, .ref mq])), (mct, .inl (k2, 40, .inl (fun k9 => nI (ct k9))))] sz) := by
  refine Met.ofW (cc := cX10_forget) (maxL := 5) (ret := (some .int)) (by decide) rfl ?_
  intro pM eM s mi9 argsM belowM methM cM sM B hml hv
  obtain ⟨rfl, hsz, hR0, hP, hK, hNw⟩ := hv
  have hx := B.exec
  have hb := B.bytes
  have hr := B.returns
  have hts := atoms_spec (ws := wsX10_forget) B.pre
  have hown : s.vm.findClass RX10 = some mi9.cls := findClass_of_methodNamed B.named
  have hlocks := B.notSynchronized
  subst hsz
  have hna := q_na (RW := [(mo, .inr (9, [.int th, .int (nI n), .ref mw, .ref mct, .ref mp, .ref mnm, .ref m1, .ref m2, .int om, .int tm, .ref mt, .ref mk, .ref mr, .ref ml, .ref mq])), (mct, .inl (k2, 40, .inl (fun k9 => nI (ct k9))))]) (RO := [(mw, .inl (k1, 40, .inr (.inl (fun k9 => lN (wd k9)))))]) hnd rfl rfl hR0
  have hD := q_D (RW := [(mo, .inr (9, [.int th, .int (nI n), .ref mw, .ref mct, .ref mp, .ref mnm, .ref m1, .ref m2, .int om, .int tm, .ref mt, .ref mk, .ref mr, .ref ml, .ref mq])), (mct, .inl (k2, 40, .inl (fun k9 => nI (ct k9))))]) (sz := s.heap.size) hnd rfl
  have hA : ∀ q : Nat, s.heap.size ≤ q → va_A [(mo, .inr (9, [.int th, .int (nI n), .ref mw, .ref mct, .ref mp, .ref mnm, .ref m1, .ref m2, .int om, .int tm, .ref mt, .ref mk, .ref mr, .ref ml, .ref mq])), (mct, .inl (k2, 40, .inl (fun k9 => nI (ct k9))))] s.heap.size q := fun q h => Or.inr h
  generalize hAe : va_A [(mo, .inr (9, [.int th, .int (nI n), .ref mw, .ref mct, .ref mp, .ref mnm, .ref m1, .ref m2, .int om, .int tm, .ref mt, .ref mk, .ref mr, .ref ml, .ref mq])), (mct, .inl (k2, 40, .inl (fun k9 => nI (ct k9))))] s.heap.size = A at hna hD hA ⊢
  have hS : va_S A s.heap s.heap [] := va_S.rf
  have hR := hR0
  have hP : va_P D vwCl [(mo, .inr (9, [.int th, .int (nI n), .ref mw, .ref mct, .ref mp, .ref mnm, .ref m1, .ref m2, .int om, .int tm, .ref mt, .ref mk, .ref mr, .ref ml, .ref mq])), (mct, .inl (k2, 40, .inl (fun k9 => nI (ct k9))))] s.heap := hP
  have hl := lv_entry ([.ref mo, .long (lN a)]) (n := 5) (Nat.le_of_ble_eq_true rfl)
  rw [lg_entry_eq]
  generalize (lg_sl ([.ref mo, .long (lN a)]) ++ List.replicate (5 - (lg_sl ([.ref mo, .long (lN a)])).length) Slot.unset).toArray = ls at hl ⊢
  have hl : lv_has ls 5 [(0, .ref mo), (1, .long (lN a))] := hl
  refine lv_lload_n hx hb dX10_forget_0 rfl (lv_at hl 1 rfl) ?_
  refine vp_callSi (W.runS (As := [.long (lN a)]) (rest := []) ⟨hx, hb, hml, hown, hts⟩ (c_X10_isWord (l := l) (D := D) (a := a) (ha := ha)) (va_cwS 1 hts gX10_forget_X10_isWord rfl rfl rfl (by decide +kernel) ⟨Nat.le_of_ble_eq_true rfl, Nat.le_of_ble_eq_true rfl⟩) ⟨qP_blind, (qP_of (q_Pof (fun _ h => absurd h List.not_mem_nil)) (hK.sub (tys' := []) [] rfl) hNw)⟩ rfl rfl hl.1 rfl (lv_room (Nat.le_of_ble_eq_true rfl)) dX10_forget_1 ⟨Nat.le_of_ble_eq_true rfl, Nat.le_of_ble_eq_true rfl⟩) (fun r_1 hr_1 => ?_)
  subst hr_1
  refine q_ifb_eq (tgt := 15) hx hb dX10_forget_4 (by decide) (fun c_4 => ?_) (fun c_4 => ?_)
  · skip
    refine lv_iconst (v := (-1)) hx hb dX10_forget_15 (by decide) ?_
    refine lv_istore_n (lv' := [(3, .int ((-1))), (0, .ref mo), (1, .long (lN a))]) hx hb dX10_forget_16 rfl hl (by decide) rfl (fun ls hl => ?_)
    refine lv_aload_n hx hb dX10_forget_17 rfl (lv_at hl 1 rfl) ?_
    refine lv_lload_n hx hb dX10_forget_18 rfl (lv_at hl 2 rfl) ?_
    refine vp_callSi (W.runS (As := [.long (lN a)]) (rest := [.ref mo]) ⟨hx, hb, hml, hown, hts⟩ (c_X10_isWord (l := l) (D := D) (a := a) (ha := ha)) (va_cwS 1 hts gX10_forget_X10_isWord rfl rfl rfl (by decide +kernel) ⟨Nat.le_of_ble_eq_true rfl, Nat.le_of_ble_eq_true rfl⟩) ⟨qP_blind, (qP_of (q_Pof (fun _ h => absurd h List.not_mem_nil)) (hK.sub (tys' := []) [] rfl) hNw)⟩ rfl rfl hl.1 rfl (lv_room (Nat.le_of_ble_eq_true rfl)) dX10_forget_19 ⟨Nat.le_of_ble_eq_true rfl, Nat.le_of_ble_eq_true rfl⟩) (fun r_2 hr_2 => ?_)
    subst hr_2
    refine q_ifb_ne (tgt := 29) hx hb dX10_forget_22 (by decide) (fun c_22 => False.elim (by exact c_4 c_22)) (fun c_22 => ?_)
    refine lv_iconst (v := nI 1) hx hb dX10_forget_25 (by decide) ?_
    refine lv_goto (tgt := 42) hx hb dX10_forget_26 (by decide) ?_
    have hF := va_free (wc := [(mo, .inr (9, [.int th, .int (nI n), .ref mw, .ref mct, .ref mp, .ref mnm, .ref m1, .ref m2, .int om, .int tm, .ref mt, .ref mk, .ref mr, .ref ml, .ref mq]))]) hD hS hA [0] rfl
    refine va_calli (va_runV (As := [.int (nI 1)]) (rest := []) ⟨hx, hb, hml, hown, hts⟩ (c_X10_goesWell (l := l) (D := D) (mo := mo) (mw := mw) (mct := mct) (mp := mp) (mnm := mnm) (m1 := m1) (m2 := m2) (mt := mt) (mk := mk) (mr := mr) (ml := ml) (mq := mq) (th := th) (n := n) (om := om) (tm := tm) (x9 := 1) (sz := s.heap.size) (hnd := (q_nds hnd [0] rfl rfl)) (hx9 := by omega)) (cwV 1 hts gX10_forget_X10_goesWell rfl rfl rfl (by decide +kernel) ⟨Nat.le_of_ble_eq_true rfl, Nat.le_of_ble_eq_true rfl⟩) ⟨qW_blind, (va_recv hK hP (ci := 9) (q0 := 0) rfl rfl), (qW_of (q_Pof (fun _ h => absurd h List.not_mem_nil)) (hP.sub (ws' := [(mo, .inr (9, [.int th, .int (nI n), .ref mw, .ref mct, .ref mp, .ref mnm, .ref m1, .ref m2, .int om, .int tm, .ref mt, .ref mk, .ref mr, .ref ml, .ref mq]))]) [0] rfl) (hK.sub (tys' := []) [] rfl) hNw)⟩ rfl rfl hl.1 rfl (lv_room (Nat.le_of_ble_eq_true rfl)) dX10_forget_42 ⟨Nat.le_of_ble_eq_true rfl, Nat.le_of_ble_eq_true rfl⟩) hS (fun q _ h => hF q h) hF (fun r_3 u_7 t_6 H_4 locs_5 ht hvm hr_3 hB hz1 hk1 hS => ?_)
    replace hB : va_P D vwCl [(mo, .inr (9, [.int (nI 1), .int (nI n), .ref mw, .ref mct, .ref mp, .ref mnm, .ref m1, .ref m2, .int om, .int tm, .ref mt, .ref mk, .ref mr, .ref ml, .ref mq]))] H_4 := by rw [← ht]; exact hB
    obtain ⟨hP, hD⟩ := q_join (wc := [(mo, .inr (9, [.int th, .int (nI n), .ref mw, .ref mct, .ref mp, .ref mnm, .ref m1, .ref m2, .int om, .int tm, .ref mt, .ref mk, .ref mr, .ref ml, .ref mq]))]) (w1 := [(mo, .inr (9, [.int (nI 1), .int (nI n), .ref mw, .ref mct, .ref mp, .ref mnm, .ref m1, .ref m2, .int om, .int tm, .ref mt, .ref mk, .ref mr, .ref ml, .ref mq]))]) (ws' := [(mo, .inr (9, [.int (nI 1), .int (nI n), .ref mw, .ref mct, .ref mp, .ref mnm, .ref m1, .ref m2, .int om, .int tm, .ref mt, .ref mk, .ref mr, .ref ml, .ref mq])), (mct, .inl (k2, 40, .inl (fun k9 => nI (ct k9))))]) [0] hP hD rfl rfl hk1 hB rfl
    have hR := q_ro hR0 hna hS
    subst hr_3
    refine q_ifb_ne (tgt := 50) hx hb dX10_forget_45 (by decide) (fun c9 => absurd c9 (by decide)) (fun _ => ?_)
    refine lv_iconst (v := nI 0) hx hb dX10_forget_48 (by decide) ?_
    exact W.iret (v := nI 0) hx hb hr (fun t9 ht hW => ⟨⟨nI 0, (nI 1, ct), rfl, (Or.inl ⟨c_4, rfl, rfl⟩), by show va_P D vwCl _ t9.heap; rw [ht]; exact hP⟩, hS.F ht⟩) hS.2.2 dX10_forget_49
  · skip
    refine lv_aload_n hx hb dX10_forget_7 rfl (lv_at hl 0 rfl) ?_
    refine lv_lload_n hx hb dX10_forget_8 rfl (lv_at hl 1 rfl) ?_
    refine vp_callSi (W.runV (As := [.long (lN a)]) (rest := []) ⟨hx, hb, hml, hown, hts⟩ (c_X10_find (l := l) (D := D) (mo := mo) (mw := mw) (mct := mct) (mp := mp) (mnm := mnm) (m1 := m1) (m2 := m2) (mt := mt) (mk := mk) (mr := mr) (ml := ml) (mq := mq) (k1 := k1) (th := th) (n := n) (om := om) (tm := tm) (wd := wd) (v := a) (hv9 := by have := gw_lt c_4; omega) (hn40 := hn40) (hgw := hgw) (hinj := hinj)) (cwV 1 hts gX10_forget_X10_find rfl rfl rfl (by decide +kernel) ⟨Nat.le_of_ble_eq_true rfl, Nat.le_of_ble_eq_true rfl⟩) ⟨qP_blind, (va_recv hK hP (ci := 9) (q0 := 0) rfl rfl), (qP_of (show va_P D vwCl [(mo, .inr (9, [.int th, .int (nI n), .ref mw, .ref mct, .ref mp, .ref mnm, .ref m1, .ref m2, .int om, .int tm, .ref mt, .ref mk, .ref mr, .ref ml, .ref mq])), (mw, .inl (k1, 40, .inr (.inl (fun k9 => lN (wd k9)))))] _ from (va_P.app (hP.sub (ws' := [(mo, .inr (9, [.int th, .int (nI n), .ref mw, .ref mct, .ref mp, .ref mnm, .ref m1, .ref m2, .int om, .int tm, .ref mt, .ref mk, .ref mr, .ref ml, .ref mq]))]) [0] rfl) (hR.sub (ws' := [(mw, .inl (k1, 40, .inr (.inl (fun k9 => lN (wd k9)))))]) [0] rfl))) (hK.sub (tys' := [(k1, .long)]) [1] rfl) hNw)⟩ rfl rfl hl.1 rfl (lv_room (Nat.le_of_ble_eq_true rfl)) dX10_forget_9 ⟨Nat.le_of_ble_eq_true rfl, Nat.le_of_ble_eq_true rfl⟩) (fun r_8 hr_8 => ?_)
    subst hr_8
    refine lv_goto (tgt := 16) hx hb dX10_forget_12 (by decide) ?_
    refine lv_istore_n (lv' := [(3, .int (pin (ffi (fun k => decide (wd k = a)) n))), (0, .ref mo), (1, .long (lN a))]) hx hb dX10_forget_16 rfl hl (by decide) rfl (fun ls hl => ?_)
    refine lv_aload_n hx hb dX10_forget_17 rfl (lv_at hl 1 rfl) ?_
    refine lv_lload_n hx hb dX10_forget_18 rfl (lv_at hl 2 rfl) ?_
    refine vp_callSi (W.runS (As := [.long (lN a)]) (rest := [.ref mo]) ⟨hx, hb, hml, hown, hts⟩ (c_X10_isWord (l := l) (D := D) (a := a) (ha := ha)) (va_cwS 1 hts gX10_forget_X10_isWord rfl rfl rfl (by decide +kernel) ⟨Nat.le_of_ble_eq_true rfl, Nat.le_of_ble_eq_true rfl⟩) ⟨qP_blind, (qP_of (q_Pof (fun _ h => absurd h List.not_mem_nil)) (hK.sub (tys' := []) [] rfl) hNw)⟩ rfl rfl hl.1 rfl (lv_room (Nat.le_of_ble_eq_true rfl)) dX10_forget_19 ⟨Nat.le_of_ble_eq_true rfl, Nat.le_of_ble_eq_true rfl⟩) (fun r_9 hr_9 => ?_)
    subst hr_9
    refine q_ifb_ne (tgt := 29) hx hb dX10_forget_22 (by decide) (fun c_22 => ?_) (fun c_22 => False.elim (by exact c_22 c_4))
    refine q_opt (o := ffi (fun k => decide (wd k = a)) n) (fun e_29 => ?_) (fun i7 e_29 => ?_)
    · skip
      have hl : lv_has ls 5 [(3, .int ((-1))), (0, .ref mo), (1, .long (lN a))] := by rw [e_29] at hl; exact hl
      refine lv_aload_n hx hb dX10_forget_29 rfl (lv_at hl 1 rfl) ?_
      refine lv_iload_n hx hb dX10_forget_30 rfl (lv_at hl 0 rfl) ?_
      refine vp_callSi (W.runV (As := [.int ((-1))]) (rest := [.ref mo]) ⟨hx, hb, hml, hown, hts⟩ (c_X10_isKnown_n (l := l) (D := D) (mo := mo) (mw := mw) (mct := mct) (mp := mp) (mnm := mnm) (m1 := m1) (m2 := m2) (mt := mt) (mk := mk) (mr := mr) (ml := ml) (mq := mq) (k2 := k2) (th := th) (n := n) (om := om) (tm := tm) (ct := ct) ) (cwV 1 hts gX10_forget_X10_isKnown rfl rfl rfl (by decide +kernel) ⟨Nat.le_of_ble_eq_true rfl, Nat.le_of_ble_eq_true rfl⟩) ⟨qP_blind, (va_recv hK hP (ci := 9) (q0 := 0) rfl rfl), (qP_of (hP.sub (ws' := [(mo, .inr (9, [.int th, .int (nI n), .ref mw, .ref mct, .ref mp, .ref mnm, .ref m1, .ref m2, .int om, .int tm, .ref mt, .ref mk, .ref mr, .ref ml, .ref mq])), (mct, .inl (k2, 40, .inl (fun k9 => nI (ct k9))))]) [0, 1] rfl) (hK.sub (tys' := [(k2, .int)]) [0] rfl) hNw)⟩ rfl rfl hl.1 rfl (lv_room (Nat.le_of_ble_eq_true rfl)) dX10_forget_31 ⟨Nat.le_of_ble_eq_true rfl, Nat.le_of_ble_eq_true rfl⟩) (fun r_10 hr_10 => ?_)
      subst hr_10
      refine lv_if_eq (tgt := 41) hx hb dX10_forget_34 (by decide) (fun _ => ?_) (fun c9 => absurd (by decide) c9)
      refine lv_iconst (v := nI 2) hx hb dX10_forget_41 (by decide) ?_
      have hF := va_free (wc := [(mo, .inr (9, [.int th, .int (nI n), .ref mw, .ref mct, .ref mp, .ref mnm, .ref m1, .ref m2, .int om, .int tm, .ref mt, .ref mk, .ref mr, .ref ml, .ref mq]))]) hD hS hA [0] rfl
      refine va_calli (va_runV (As := [.int (nI 2)]) (rest := []) ⟨hx, hb, hml, hown, hts⟩ (c_X10_goesWell (l := l) (D := D) (mo := mo) (mw := mw) (mct := mct) (mp := mp) (mnm := mnm) (m1 := m1) (m2 := m2) (mt := mt) (mk := mk) (mr := mr) (ml := ml) (mq := mq) (th := th) (n := n) (om := om) (tm := tm) (x9 := 2) (sz := s.heap.size) (hnd := (q_nds hnd [0] rfl rfl)) (hx9 := by omega)) (cwV 1 hts gX10_forget_X10_goesWell rfl rfl rfl (by decide +kernel) ⟨Nat.le_of_ble_eq_true rfl, Nat.le_of_ble_eq_true rfl⟩) ⟨qW_blind, (va_recv hK hP (ci := 9) (q0 := 0) rfl rfl), (qW_of (q_Pof (fun _ h => absurd h List.not_mem_nil)) (hP.sub (ws' := [(mo, .inr (9, [.int th, .int (nI n), .ref mw, .ref mct, .ref mp, .ref mnm, .ref m1, .ref m2, .int om, .int tm, .ref mt, .ref mk, .ref mr, .ref ml, .ref mq]))]) [0] rfl) (hK.sub (tys' := []) [] rfl) hNw)⟩ rfl rfl hl.1 rfl (lv_room (Nat.le_of_ble_eq_true rfl)) dX10_forget_42 ⟨Nat.le_of_ble_eq_true rfl, Nat.le_of_ble_eq_true rfl⟩) hS (fun q _ h => hF q h) hF (fun r_11 u_15 t_14 H_12 locs_13 ht hvm hr_11 hB hz1 hk1 hS => ?_)
      replace hB : va_P D vwCl [(mo, .inr (9, [.int (nI 2), .int (nI n), .ref mw, .ref mct, .ref mp, .ref mnm, .ref m1, .ref m2, .int om, .int tm, .ref mt, .ref mk, .ref mr, .ref ml, .ref mq]))] H_12 := by rw [← ht]; exact hB
      obtain ⟨hP, hD⟩ := q_join (wc := [(mo, .inr (9, [.int th, .int (nI n), .ref mw, .ref mct, .ref mp, .ref mnm, .ref m1, .ref m2, .int om, .int tm, .ref mt, .ref mk, .ref mr, .ref ml, .ref mq]))]) (w1 := [(mo, .inr (9, [.int (nI 2), .int (nI n), .ref mw, .ref mct, .ref mp, .ref mnm, .ref m1, .ref m2, .int om, .int tm, .ref mt, .ref mk, .ref mr, .ref ml, .ref mq]))]) (ws' := [(mo, .inr (9, [.int (nI 2), .int (nI n), .ref mw, .ref mct, .ref mp, .ref mnm, .ref m1, .ref m2, .int om, .int tm, .ref mt, .ref mk, .ref mr, .ref ml, .ref mq])), (mct, .inl (k2, 40, .inl (fun k9 => nI (ct k9))))]) [0] hP hD rfl rfl hk1 hB rfl
      have hR := q_ro hR0 hna hS
      subst hr_11
      refine q_ifb_ne (tgt := 50) hx hb dX10_forget_45 (by decide) (fun c9 => absurd c9 (by decide)) (fun _ => ?_)
      refine lv_iconst (v := nI 0) hx hb dX10_forget_48 (by decide) ?_
      exact W.iret (v := nI 0) hx hb hr (fun t9 ht hW => ⟨⟨nI 0, (nI 2, ct), rfl, (Or.inr (Or.inl ⟨c_4, fun i9 h9 => (by rw [e_29] at h9; exact nomatch h9), rfl, rfl⟩)), by show va_P D vwCl _ t9.heap; rw [ht]; exact hP⟩, hS.F ht⟩) hS.2.2 dX10_forget_49
    · skip
      have hi7 := (ffi_some e_29).1
      have hc7 := hcb i7 hi7
      have hl : lv_has ls 5 [(3, .int (nI i7)), (0, .ref mo), (1, .long (lN a))] := by rw [e_29] at hl; exact hl
      refine lv_aload_n hx hb dX10_forget_29 rfl (lv_at hl 1 rfl) ?_
      refine lv_iload_n hx hb dX10_forget_30 rfl (lv_at hl 0 rfl) ?_
      refine vp_callSi (W.runV (As := [.int (nI i7)]) (rest := [.ref mo]) ⟨hx, hb, hml, hown, hts⟩ (c_X10_isKnown (l := l) (D := D) (mo := mo) (mw := mw) (mct := mct) (mp := mp) (mnm := mnm) (m1 := m1) (m2 := m2) (mt := mt) (mk := mk) (mr := mr) (ml := ml) (mq := mq) (k2 := k2) (th := th) (n := n) (om := om) (tm := tm) (ct := ct) (i := i7) (hi := by omega) (hcb := hc7)) (cwV 1 hts gX10_forget_X10_isKnown rfl rfl rfl (by decide +kernel) ⟨Nat.le_of_ble_eq_true rfl, Nat.le_of_ble_eq_true rfl⟩) ⟨qP_blind, (va_recv hK hP (ci := 9) (q0 := 0) rfl rfl), (qP_of (hP.sub (ws' := [(mo, .inr (9, [.int th, .int (nI n), .ref mw, .ref mct, .ref mp, .ref mnm, .ref m1, .ref m2, .int om, .int tm, .ref mt, .ref mk, .ref mr, .ref ml, .ref mq])), (mct, .inl (k2, 40, .inl (fun k9 => nI (ct k9))))]) [0, 1] rfl) (hK.sub (tys' := [(k2, .int)]) [0] rfl) hNw)⟩ rfl rfl hl.1 rfl (lv_room (Nat.le_of_ble_eq_true rfl)) dX10_forget_31 ⟨Nat.le_of_ble_eq_true rfl, Nat.le_of_ble_eq_true rfl⟩) (fun r_16 hr_16 => ?_)
      subst hr_16
      refine q_ifb_eq (tgt := 41) hx hb dX10_forget_34 (by decide) (fun c_34 => ?_) (fun c_34 => ?_)
      · skip
        refine lv_iconst (v := nI 2) hx hb dX10_forget_41 (by decide) ?_
        have hF := va_free (wc := [(mo, .inr (9, [.int th, .int (nI n), .ref mw, .ref mct, .ref mp, .ref mnm, .ref m1, .ref m2, .int om, .int tm, .ref mt, .ref mk, .ref mr, .ref ml, .ref mq]))]) hD hS hA [0] rfl
        refine va_calli (va_runV (As := [.int (nI 2)]) (rest := []) ⟨hx, hb, hml, hown, hts⟩ (c_X10_goesWell (l := l) (D := D) (mo := mo) (mw := mw) (mct := mct) (mp := mp) (mnm := mnm) (m1 := m1) (m2 := m2) (mt := mt) (mk := mk) (mr := mr) (ml := ml) (mq := mq) (th := th) (n := n) (om := om) (tm := tm) (x9 := 2) (sz := s.heap.size) (hnd := (q_nds hnd [0] rfl rfl)) (hx9 := by omega)) (cwV 1 hts gX10_forget_X10_goesWell rfl rfl rfl (by decide +kernel) ⟨Nat.le_of_ble_eq_true rfl, Nat.le_of_ble_eq_true rfl⟩) ⟨qW_blind, (va_recv hK hP (ci := 9) (q0 := 0) rfl rfl), (qW_of (q_Pof (fun _ h => absurd h List.not_mem_nil)) (hP.sub (ws' := [(mo, .inr (9, [.int th, .int (nI n), .ref mw, .ref mct, .ref mp, .ref mnm, .ref m1, .ref m2, .int om, .int tm, .ref mt, .ref mk, .ref mr, .ref ml, .ref mq]))]) [0] rfl) (hK.sub (tys' := []) [] rfl) hNw)⟩ rfl rfl hl.1 rfl (lv_room (Nat.le_of_ble_eq_true rfl)) dX10_forget_42 ⟨Nat.le_of_ble_eq_true rfl, Nat.le_of_ble_eq_true rfl⟩) hS (fun q _ h => hF q h) hF (fun r_17 u_21 t_20 H_18 locs_19 ht hvm hr_17 hB hz1 hk1 hS => ?_)
        replace hB : va_P D vwCl [(mo, .inr (9, [.int (nI 2), .int (nI n), .ref mw, .ref mct, .ref mp, .ref mnm, .ref m1, .ref m2, .int om, .int tm, .ref mt, .ref mk, .ref mr, .ref ml, .ref mq]))] H_18 := by rw [← ht]; exact hB
        obtain ⟨hP, hD⟩ := q_join (wc := [(mo, .inr (9, [.int th, .int (nI n), .ref mw, .ref mct, .ref mp, .ref mnm, .ref m1, .ref m2, .int om, .int tm, .ref mt, .ref mk, .ref mr, .ref ml, .ref mq]))]) (w1 := [(mo, .inr (9, [.int (nI 2), .int (nI n), .ref mw, .ref mct, .ref mp, .ref mnm, .ref m1, .ref m2, .int om, .int tm, .ref mt, .ref mk, .ref mr, .ref ml, .ref mq]))]) (ws' := [(mo, .inr (9, [.int (nI 2), .int (nI n), .ref mw, .ref mct, .ref mp, .ref mnm, .ref m1, .ref m2, .int om, .int tm, .ref mt, .ref mk, .ref mr, .ref ml, .ref mq])), (mct, .inl (k2, 40, .inl (fun k9 => nI (ct k9))))]) [0] hP hD rfl rfl hk1 hB rfl
        have hR := q_ro hR0 hna hS
        subst hr_17
        refine q_ifb_ne (tgt := 50) hx hb dX10_forget_45 (by decide) (fun c9 => absurd c9 (by decide)) (fun _ => ?_)
        refine lv_iconst (v := nI 0) hx hb dX10_forget_48 (by decide) ?_
        exact W.iret (v := nI 0) hx hb hr (fun t9 ht hW => ⟨⟨nI 0, (nI 2, ct), rfl, (Or.inr (Or.inl ⟨c_4, fun i9 h9 => (by rw [e_29] at h9; cases h9; omega), rfl, rfl⟩)), by show va_P D vwCl _ t9.heap; rw [ht]; exact hP⟩, hS.F ht⟩) hS.2.2 dX10_forget_49
      · skip
        refine lv_iconst (v := nI 0) hx hb dX10_forget_37 (by decide) ?_
        refine lv_goto (tgt := 42) hx hb dX10_forget_38 (by decide) ?_
        have hF := va_free (wc := [(mo, .inr (9, [.int th, .int (nI n), .ref mw, .ref mct, .ref mp, .ref mnm, .ref m1, .ref m2, .int om, .int tm, .ref mt, .ref mk, .ref mr, .ref ml, .ref mq]))]) hD hS hA [0] rfl
        refine va_calli (va_runV (As := [.int (nI 0)]) (rest := []) ⟨hx, hb, hml, hown, hts⟩ (c_X10_goesWell (l := l) (D := D) (mo := mo) (mw := mw) (mct := mct) (mp := mp) (mnm := mnm) (m1 := m1) (m2 := m2) (mt := mt) (mk := mk) (mr := mr) (ml := ml) (mq := mq) (th := th) (n := n) (om := om) (tm := tm) (x9 := 0) (sz := s.heap.size) (hnd := (q_nds hnd [0] rfl rfl)) (hx9 := by omega)) (cwV 1 hts gX10_forget_X10_goesWell rfl rfl rfl (by decide +kernel) ⟨Nat.le_of_ble_eq_true rfl, Nat.le_of_ble_eq_true rfl⟩) ⟨qW_blind, (va_recv hK hP (ci := 9) (q0 := 0) rfl rfl), (qW_of (q_Pof (fun _ h => absurd h List.not_mem_nil)) (hP.sub (ws' := [(mo, .inr (9, [.int th, .int (nI n), .ref mw, .ref mct, .ref mp, .ref mnm, .ref m1, .ref m2, .int om, .int tm, .ref mt, .ref mk, .ref mr, .ref ml, .ref mq]))]) [0] rfl) (hK.sub (tys' := []) [] rfl) hNw)⟩ rfl rfl hl.1 rfl (lv_room (Nat.le_of_ble_eq_true rfl)) dX10_forget_42 ⟨Nat.le_of_ble_eq_true rfl, Nat.le_of_ble_eq_true rfl⟩) hS (fun q _ h => hF q h) hF (fun r_22 u_26 t_25 H_23 locs_24 ht hvm hr_22 hB hz1 hk1 hS => ?_)
        replace hB : va_P D vwCl [(mo, .inr (9, [.int (nI 0), .int (nI n), .ref mw, .ref mct, .ref mp, .ref mnm, .ref m1, .ref m2, .int om, .int tm, .ref mt, .ref mk, .ref mr, .ref ml, .ref mq]))] H_23 := by rw [← ht]; exact hB
        obtain ⟨hP, hD⟩ := q_join (wc := [(mo, .inr (9, [.int th, .int (nI n), .ref mw, .ref mct, .ref mp, .ref mnm, .ref m1, .ref m2, .int om, .int tm, .ref mt, .ref mk, .ref mr, .ref ml, .ref mq]))]) (w1 := [(mo, .inr (9, [.int (nI 0), .int (nI n), .ref mw, .ref mct, .ref mp, .ref mnm, .ref m1, .ref m2, .int om, .int tm, .ref mt, .ref mk, .ref mr, .ref ml, .ref mq]))]) (ws' := [(mo, .inr (9, [.int (nI 0), .int (nI n), .ref mw, .ref mct, .ref mp, .ref mnm, .ref m1, .ref m2, .int om, .int tm, .ref mt, .ref mk, .ref mr, .ref ml, .ref mq])), (mct, .inl (k2, 40, .inl (fun k9 => nI (ct k9))))]) [0] hP hD rfl rfl hk1 hB rfl
        have hR := q_ro hR0 hna hS
        subst hr_22
        refine q_ifb_ne (tgt := 50) hx hb dX10_forget_45 (by decide) (fun _ => ?_) (fun c9 => absurd (by decide) c9)
        refine lv_aload_n hx hb dX10_forget_50 rfl (lv_at hl 1 rfl) ?_
        refine va_get (D := D) (own := RX10) (ref := "FuzzyFensModel") (ci := 9) (v := .ref mct) (C := RX10) (T := TX10) (N := 15) hx hb hts iX10_forget_X10 hown hK hP 0 rfl rfl 3 (by decide) (hts (.fieldLink RX10 13 "FuzzyFensModel" "counts" "[I") (List.mem_of_getElem? (i := 1) rfl)) (fun _ h9 => h9) rfl dX10_forget_51 ?_
        refine lv_iload_n hx hb dX10_forget_54 rfl (lv_at hl 0 rfl) ?_
        refine va_iald (D := D) hx hb hK hP 1 0 rfl rfl (vp_in_nI (n := i7) (N := 40) (by omega) (by decide)) dX10_forget_55 ?_
        rw [nI_clamp (n := i7) (by omega)]
        refine q_cvi (show (fun k9 => nI (ct k9)) i7 = nI (ct i7) from rfl) ?_
        refine lv_istore (lv' := [(4, .int (nI (ct i7))), (3, .int (nI i7)), (0, .ref mo), (1, .long (lN a))]) hx hb dX10_forget_56 hl (by decide) rfl (fun ls hl => ?_)
        refine lv_aload_n hx hb dX10_forget_58 rfl (lv_at hl 2 rfl) ?_
        refine va_get (D := D) (own := RX10) (ref := "FuzzyFensModel") (ci := 9) (v := .ref mct) (C := RX10) (T := TX10) (N := 15) hx hb hts iX10_forget_X10 hown hK hP 0 rfl rfl 3 (by decide) (hts (.fieldLink RX10 13 "FuzzyFensModel" "counts" "[I") (List.mem_of_getElem? (i := 1) rfl)) (fun _ h9 => h9) rfl dX10_forget_59 ?_
        refine lv_iload_n hx hb dX10_forget_62 rfl (lv_at hl 1 rfl) ?_
        refine lv_iconst (v := nI 0) hx hb dX10_forget_63 (by decide) ?_
        refine va_iast (D := D) hx hb hK hP hD hS 1 0 rfl rfl (vp_in_nI (n := i7) (N := 40) (by omega) (by decide)) dX10_forget_64 (fun H_27 locs_28 hP hD hS => ?_)
        rw [nI_clamp (n := i7) (by omega)] at hP hD
        rw [q_upf_nI] at hP hD
        have hP : va_P D vwCl [(mo, .inr (9, [.int (nI 0), .int (nI n), .ref mw, .ref mct, .ref mp, .ref mnm, .ref m1, .ref m2, .int om, .int tm, .ref mt, .ref mk, .ref mr, .ref ml, .ref mq])), (mct, .inl (k2, 40, .inl (fun k9 => nI ((va_up ct i7 0) k9))))] H_27 := hP
        have hD : va_D A [(mo, .inr (9, [.int (nI 0), .int (nI n), .ref mw, .ref mct, .ref mp, .ref mnm, .ref m1, .ref m2, .int om, .int tm, .ref mt, .ref mk, .ref mr, .ref ml, .ref mq])), (mct, .inl (k2, 40, .inl (fun k9 => nI ((va_up ct i7 0) k9))))] := hD
        have hR := q_ro hR0 hna hS
        refine lv_iload hx hb dX10_forget_65 (lv_at hl 0 rfl) ?_
        exact W.iret (v := nI (ct i7)) hx hb hr (fun t9 ht hW => ⟨⟨nI (ct i7), (nI 0, (va_up ct i7 0)), rfl, (Or.inr (Or.inr ⟨c_4, i7, e_29, c_34, rfl, rfl, rfl⟩)), by show va_P D vwCl _ t9.heap; rw [ht]; exact hP⟩, hS.F ht⟩) hS.2.2 dX10_forget_67
