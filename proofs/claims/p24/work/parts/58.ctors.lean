set_option maxRecDepth 20000 in
theorem iX2_init_X2 : ∀ w ∈ wsX20, w ∈ wsX2_init := by decide +kernel
set_option maxHeartbeats 4000000 in
set_option maxRecDepth 100000 in
/-- Grid() -/
theorem c_X2_init (l : Launch) (D : va_G) (sz : Nat) (g : Nat) (hnd : ([g] ++ []).Nodup)  : Met l yX2_init wsX2_init { frames := 1, cells := 1, slots := 121, locals := 12 } (va_Pc [.ref g] (qW D sz ([]) [(g, .inr (2, [.null]))] [])) (va_Qv (fun (uv : (Nat) × (ClassId)) => True) (fun (uv : (Nat) × (ClassId)) (tv : State) => va_P D vwCl ([(g, .inr (2, [.ref uv.1])), (uv.1, .inl (uv.2, 121, .inl (fun _ => (0 : Int32))))]) tv.heap ∧ va_D (va_A [(g, .inr (2, [.null]))] sz) ([(g, .inr (2, [.ref uv.1])), (uv.1, .inl (uv.2, 121, .inl (fun _ => (0 : Int32))))]) ∧ va_K D vwCl [(uv.2, .int)] tv) (va_A [(g, .inr (2, [.null]))] sz)) 1 121 (va_A [(g, .inr (2, [.null]))] sz) := by
  refine Met.ofW (cc := cX2_init) (maxL := 1) (ret := none) (by decide) rfl ?_
  intro pM eM s mi9 argsM belowM methM cM sM B hml hv
  obtain ⟨rfl, hsz, hR0, hP, hK, hNw⟩ := hv
  have hx := B.exec
  have hb := B.bytes
  have hr := B.returns
  have hts := atoms_spec (ws := wsX2_init) B.pre
  have hown : s.vm.findClass RX2 = some mi9.cls := findClass_of_methodNamed B.named
  have hlocks := B.notSynchronized
  have hin : methM.name = "<init>" := (name_of_methodNamed B.named B.method).1
  subst hsz
  have hna := q_na (RW := [(g, .inr (2, [.null]))]) (RO := []) hnd rfl rfl hR0
  have hD := q_D (RW := [(g, .inr (2, [.null]))]) (sz := s.heap.size) hnd rfl
  have hnR : (([] : va_W).map (·.1)).Nodup := by rw [show ([] : va_W).map (·.1) = [] from rfl]; exact (List.nodup_append.mp hnd).2.1
  have hA : ∀ q : Nat, s.heap.size ≤ q → va_A [(g, .inr (2, [.null]))] s.heap.size q := fun q h => Or.inr h
  generalize hAe : va_A [(g, .inr (2, [.null]))] s.heap.size = A at hna hD hA ⊢
  have hS : va_S A s.heap s.heap [] := va_S.rf
  have hR := hR0
  have hP : va_P D vwCl [(g, .inr (2, [.null]))] s.heap := hP
  have hl := lv_entry ([.ref g]) (n := 1) (Nat.le_of_ble_eq_true rfl)
  rw [lg_entry_eq]
  generalize (lg_sl ([.ref g]) ++ List.replicate (1 - (lg_sl ([.ref g])).length) Slot.unset).toArray = ls at hl ⊢
  have hl : lv_has ls 1 [(0, .ref g)] := hl
  refine lv_aload_n hx hb dX2_init_0 rfl (lv_at hl 0 rfl) ?_
  refine W.objInit hx hb hown (hts (.methodLink RX2 3 objectInit) (List.mem_of_getElem? (i := 1) rfl)) (hts (.instanceMethod objectInit) (List.mem_of_getElem? (i := 2) rfl)) (hts (.code objectInit ⟨#[0xb1]⟩ 1 none) (List.mem_of_getElem? (i := 3) rfl)) rfl (by rw [hml]; exact hl.1) rfl dX2_init_1 (Nat.le_of_ble_eq_true rfl) (Nat.le_of_ble_eq_true rfl) ?_
  refine W.eq (g2 := F0 mi9 4 ls []) rfl ?_
  refine lv_aload_n hx hb dX2_init_4 rfl (lv_at hl 0 rfl) ?_
  refine lv_bipush (v := nI 121) hx hb dX2_init_5 (by decide) ?_
  refine va_newa (D := D) (atype := .int) (ty := .int) (N' := 121) (a0 := (121, .inl (fun _ => (0 : Int32)))) hx hb (hts (.arrayClass .int) (List.mem_of_getElem? (i := 4) rfl)) rfl hK hP hD hS hA (fun _ => rfl) (by decide) (by decide) (Nat.le_of_ble_eq_true rfl) (Nat.le_of_ble_eq_true rfl) (Nat.le_of_ble_eq_true rfl) dX2_init_7 (fun q_1 cA_3 H_2 hK hP hD hS => ?_)
  have hK : va_K D vwCl [(cA_3, .int)] s := hK
  have hP : va_P D vwCl [(g, .inr (2, [.null])), (q_1, .inl (cA_3, 121, .inl (fun _ => (0 : Int32))))] H_2 := hP
  have hD : va_D A [(g, .inr (2, [.null])), (q_1, .inl (cA_3, 121, .inl (fun _ => (0 : Int32))))] := hD
  have hR := q_ro hR0 hna hS
  refine va_putF (D := D) (ci := 2) (v := .ref q_1) (ty := .array .int) (C := RX2) (T := TX2) (N := 1) hx hb hts iX2_init_X2 tyX2 tyX2_ok nmX2 hown hK hP hD hS 0 rfl rfl 0 (by decide) (hts (.fieldLink RX2 11 "FuzzyFens$Grid" "cells" "[I") (List.mem_of_getElem? (i := 5) rfl)) (fun _ h9 => h9) rfl hin rfl (by decide +kernel) rfl rfl (Nat.le_of_ble_eq_true rfl) dX2_init_9 (fun H_4 locs_5 hP hD hS => ?_)
  have hP : va_P D vwCl [(g, .inr (2, [.ref q_1])), (q_1, .inl (cA_3, 121, .inl (fun _ => (0 : Int32))))] H_4 := hP
  have hD : va_D A [(g, .inr (2, [.ref q_1])), (q_1, .inl (cA_3, 121, .inl (fun _ => (0 : Int32))))] := hD
  have hR := q_ro hR0 hna hS
  refine W.widen (k := 1) (n := 121) (Nat.le_of_ble_eq_true rfl) (Nat.le_of_ble_eq_true rfl) ?_
  exact W.vret hx hb hr (fun t9 ht hW => ⟨⟨(q_1, cA_3), rfl, trivial, by show va_P D vwCl _ t9.heap; rw [ht]; exact hP, hD, (va_K.moved hW.alike (hK.sub (tys' := [(cA_3, .int)]) [0] rfl))⟩, hS.F ht⟩) hS.2.2 dX2_init_12

set_option maxRecDepth 20000 in
theorem iX1_init_X1 : ∀ w ∈ wsX10, w ∈ wsX1_init := by decide +kernel
set_option maxRecDepth 20000 in
theorem iX1_init_X2 : ∀ w ∈ wsX20, w ∈ wsX1_init := by decide +kernel
set_option maxHeartbeats 4000000 in
set_option maxRecDepth 100000 in
/-- Gauge() -/
theorem c_X1_init (l : Launch) (D : va_G) (sz : Nat) (g : Nat) (hnd : ([g] ++ []).Nodup)  : Met l yX1_init wsX1_init { frames := 2, cells := 2, slots := 122, locals := 32 } (va_Pc [.ref g] (qW D sz ([]) [(g, .inr (1, [.null]))] [])) (va_Qv (fun (uv : (Nat) × (Nat) × (ClassId)) => True) (fun (uv : (Nat) × (Nat) × (ClassId)) (tv : State) => va_P D vwCl ([(g, .inr (1, [.ref uv.1])), (uv.1, .inr (2, [.ref uv.2.1])), (uv.2.1, .inl (uv.2.2, 121, .inl (fun _ => (0 : Int32))))]) tv.heap ∧ va_D (va_A [(g, .inr (1, [.null]))] sz) ([(g, .inr (1, [.ref uv.1])), (uv.1, .inr (2, [.ref uv.2.1])), (uv.2.1, .inl (uv.2.2, 121, .inl (fun _ => (0 : Int32))))]) ∧ va_K D vwCl [(uv.2.2, .int)] tv) (va_A [(g, .inr (1, [.null]))] sz)) 2 122 (va_A [(g, .inr (1, [.null]))] sz) := by
  refine Met.ofW (cc := cX1_init) (maxL := 1) (ret := none) (by decide) rfl ?_
  intro pM eM s mi9 argsM belowM methM cM sM B hml hv
  obtain ⟨rfl, hsz, hR0, hP, hK, hNw⟩ := hv
  have hx := B.exec
  have hb := B.bytes
  have hr := B.returns
  have hts := atoms_spec (ws := wsX1_init) B.pre
  have hown : s.vm.findClass RX1 = some mi9.cls := findClass_of_methodNamed B.named
  have hlocks := B.notSynchronized
  have hin : methM.name = "<init>" := (name_of_methodNamed B.named B.method).1
  subst hsz
  have hna := q_na (RW := [(g, .inr (1, [.null]))]) (RO := []) hnd rfl rfl hR0
  have hD := q_D (RW := [(g, .inr (1, [.null]))]) (sz := s.heap.size) hnd rfl
  have hnR : (([] : va_W).map (·.1)).Nodup := by rw [show ([] : va_W).map (·.1) = [] from rfl]; exact (List.nodup_append.mp hnd).2.1
  have hA : ∀ q : Nat, s.heap.size ≤ q → va_A [(g, .inr (1, [.null]))] s.heap.size q := fun q h => Or.inr h
  generalize hAe : va_A [(g, .inr (1, [.null]))] s.heap.size = A at hna hD hA ⊢
  have hS : va_S A s.heap s.heap [] := va_S.rf
  have hR := hR0
  have hP : va_P D vwCl [(g, .inr (1, [.null]))] s.heap := hP
  have hl := lv_entry ([.ref g]) (n := 1) (Nat.le_of_ble_eq_true rfl)
  rw [lg_entry_eq]
  generalize (lg_sl ([.ref g]) ++ List.replicate (1 - (lg_sl ([.ref g])).length) Slot.unset).toArray = ls at hl ⊢
  have hl : lv_has ls 1 [(0, .ref g)] := hl
  refine lv_aload_n hx hb dX1_init_0 rfl (lv_at hl 0 rfl) ?_
  refine W.objInit hx hb hown (hts (.methodLink RX1 1 objectInit) (List.mem_of_getElem? (i := 1) rfl)) (hts (.instanceMethod objectInit) (List.mem_of_getElem? (i := 2) rfl)) (hts (.code objectInit ⟨#[0xb1]⟩ 1 none) (List.mem_of_getElem? (i := 3) rfl)) rfl (by rw [hml]; exact hl.1) rfl dX1_init_1 (Nat.le_of_ble_eq_true rfl) (Nat.le_of_ble_eq_true rfl) ?_
  refine W.eq (g2 := F0 mi9 4 ls []) rfl ?_
  refine lv_aload_n hx hb dX1_init_4 rfl (lv_at hl 0 rfl) ?_
  refine va_new (D := D) (ci := 2) (fs := [.null]) (C := RX2) (T := TX2) (N := 1) hx hb hts iX1_init_X2 tyX2 tyX2_ok hown (hts (.classLink RX1 7 RX2) (List.mem_of_getElem? (i := 4) rfl)) (hts (.instantiable RX2 1) (List.mem_of_getElem? (i := 5) rfl)) (hts (.initialized RX2) (List.mem_of_getElem? (i := 6) rfl)) hK hP hD hS hA rfl (fun j9 h9 => by rcases (show j9 = 0 by omega) with rfl <;> rfl) (Nat.le_of_ble_eq_true rfl) (Nat.le_of_ble_eq_true rfl) dX1_init_5 (fun q_1 H_2 hP hD hS => ?_)
  have hP : va_P D vwCl [(g, .inr (1, [.null])), (q_1, .inr (2, [.null]))] H_2 := hP
  have hD : va_D A [(g, .inr (1, [.null])), (q_1, .inr (2, [.null]))] := hD
  have hR := q_ro hR0 hna hS
  refine lv_dup hx hb dX1_init_8 rfl ?_
  have hF := va_free (wc := [(q_1, .inr (2, [.null]))]) hD hS hA [1] rfl
  refine va_callv (va_runIN (host := "FuzzyFens") (own := RX1) (As := []) (rest := [.ref q_1, .ref g]) ⟨hx, hb, hml, hown, hts⟩ (c_X2_init (l := l) (D := D) (g := q_1) (sz := H_2.size) (hnd := (q_nds (q_ndg (l1 := [g, q_1]) (l2 := []) hD hnR hna rfl rfl) [1] rfl rfl)) ) ⟨va_cnB 0 hts gX1_init_X2_init_n9 rfl rfl rfl (hNw.2 ("FuzzyFens$Gauge", 9, ⟨"FuzzyFens$Grid", "<init>", "()V"⟩) (List.mem_of_getElem? (i := 1) rfl)) (hts (.initialized RX2) (List.mem_of_getElem? (i := 6) rfl)) (by decide +kernel) ⟨Nat.le_of_ble_eq_true rfl, Nat.le_of_ble_eq_true rfl⟩, rfl, (hts (.instanceMethod yX2_init) (List.mem_of_getElem? (i := 8) rfl))⟩ ⟨qW_blind, (qW_of (q_Pof (fun _ h => absurd h List.not_mem_nil)) (hP.sub (ws' := [(q_1, .inr (2, [.null]))]) [1] rfl) (hK.sub (tys' := []) [] rfl) hNw)⟩ rfl rfl hl.1 rfl (lv_room (Nat.le_of_ble_eq_true rfl)) dX1_init_9 ⟨Nat.le_of_ble_eq_true rfl, Nat.le_of_ble_eq_true rfl⟩) hS (fun q _ h => hF q h) hF (fun u_7 t_6 H_4 locs_5 ht hvm hr_3 hB hz1 hk1 hS => ?_)
  obtain ⟨c9_8, cG_9⟩ := u_7
  dsimp only at hr_3 hB
  obtain ⟨hB1, hB2, hB3⟩ := hB
  replace hB1 : va_P D vwCl ([(q_1, .inr (2, [.ref c9_8]))] ++ [(c9_8, .inl (cG_9, 121, .inl (fun _ => (0 : Int32))))]) H_4 := by rw [← ht]; exact hB1
  obtain ⟨hP, hD⟩ := q_joinN (wc := [(q_1, .inr (2, [.null]))]) (w1 := [(q_1, .inr (2, [.ref c9_8]))]) (wn := [(c9_8, .inl (cG_9, 121, .inl (fun _ => (0 : Int32))))]) (ws' := [(g, .inr (1, [.null])), (q_1, .inr (2, [.ref c9_8]))]) [1] hP hD rfl rfl hk1 hF hB1 hB2 rfl
  have hK : va_K D vwCl [(cG_9, .int)] s := hK.app (va_K.moved hvm.symm hB3)
  have hP : va_P D vwCl [(g, .inr (1, [.null])), (q_1, .inr (2, [.ref c9_8])), (c9_8, .inl (cG_9, 121, .inl (fun _ => (0 : Int32))))] H_4 := hP
  have hD : va_D A [(g, .inr (1, [.null])), (q_1, .inr (2, [.ref c9_8])), (c9_8, .inl (cG_9, 121, .inl (fun _ => (0 : Int32))))] := hD
  have hR := q_ro hR0 hna hS
  refine va_putF (D := D) (ci := 1) (v := .ref q_1) (ty := .object "FuzzyFens$Grid") (C := RX1) (T := TX1) (N := 1) hx hb hts iX1_init_X1 tyX1 tyX1_ok nmX1 hown hK hP hD hS 0 rfl rfl 0 (by decide) (hts (.fieldLink RX1 10 "FuzzyFens$Gauge" "grid" "LFuzzyFens$Grid;") (List.mem_of_getElem? (i := 7) rfl)) (fun _ h9 => h9) rfl hin rfl (by decide +kernel) rfl rfl (Nat.le_of_ble_eq_true rfl) dX1_init_12 (fun H_10 locs_11 hP hD hS => ?_)
  have hP : va_P D vwCl [(g, .inr (1, [.ref q_1])), (q_1, .inr (2, [.ref c9_8])), (c9_8, .inl (cG_9, 121, .inl (fun _ => (0 : Int32))))] H_10 := hP
  have hD : va_D A [(g, .inr (1, [.ref q_1])), (q_1, .inr (2, [.ref c9_8])), (c9_8, .inl (cG_9, 121, .inl (fun _ => (0 : Int32))))] := hD
  have hR := q_ro hR0 hna hS
  refine W.widen (k := 2) (n := 122) (Nat.le_of_ble_eq_true rfl) (Nat.le_of_ble_eq_true rfl) ?_
  exact W.vret hx hb hr (fun t9 ht hW => ⟨⟨(q_1, c9_8, cG_9), rfl, trivial, by show va_P D vwCl _ t9.heap; rw [ht]; exact hP, hD, (va_K.moved hW.alike (hK.sub (tys' := [(cG_9, .int)]) [0] rfl))⟩, hS.F ht⟩) hS.2.2 dX1_init_15

set_option maxRecDepth 20000 in
theorem iX5_init_X5 : ∀ w ∈ wsX50, w ∈ wsX5_init := by decide +kernel
set_option maxHeartbeats 4000000 in
set_option maxRecDepth 100000 in
/-- Shelf() -/
theorem c_X5_init (l : Launch) (D : va_G) (sz : Nat) (sh : Nat) (hnd : ([sh] ++ []).Nodup)  : Met l yX5_init wsX5_init { frames := 1, cells := 1, slots := 40, locals := 12 } (va_Pc [.ref sh] (qWx D sz ([]) [(sh, .inr (4, [.null, .int 0]))] [])) (va_Qv (fun (uv : (Nat) × (ClassId)) => True) (fun (uv : (Nat) × (ClassId)) (tv : State) => va_P D vwCl ([(sh, .inr (4, [.ref uv.1, .int (nI 0)])), (uv.1, .inl (uv.2, 40, .inr (.inr (.inr (.inr (fun _ => (none : Option Nat)))))))]) tv.heap ∧ va_D (va_A [(sh, .inr (4, [.null, .int 0]))] sz) ([(sh, .inr (4, [.ref uv.1, .int (nI 0)])), (uv.1, .inl (uv.2, 40, .inr (.inr (.inr (.inr (fun _ => (none : Option Nat)))))))]) ∧ va_K D vwCl [(uv.2, .object "FuzzyFens$Entry")] tv) (va_A [(sh, .inr (4, [.null, .int 0]))] sz)) 1 40 (va_A [(sh, .inr (4, [.null, .int 0]))] sz) := by
  refine Met.ofW (cc := cX5_init) (maxL := 1) (ret := none) (by decide) rfl ?_
  intro pM eM s mi9 argsM belowM methM cM sM B hml hv
  obtain ⟨rfl, hsz, hR0, hP, hK, hNw, hZ, hXt⟩ := hv
  have hx := B.exec
  have hb := B.bytes
  have hr := B.returns
  have hts := atoms_spec (ws := wsX5_init) B.pre
  have hown : s.vm.findClass RX5 = some mi9.cls := findClass_of_methodNamed B.named
  have hlocks := B.notSynchronized
  have hin : methM.name = "<init>" := (name_of_methodNamed B.named B.method).1
  subst hsz
  have hna := q_na (RW := [(sh, .inr (4, [.null, .int 0]))]) (RO := []) hnd rfl rfl hR0
  have hD := q_D (RW := [(sh, .inr (4, [.null, .int 0]))]) (sz := s.heap.size) hnd rfl
  have hnR : (([] : va_W).map (·.1)).Nodup := by rw [show ([] : va_W).map (·.1) = [] from rfl]; exact (List.nodup_append.mp hnd).2.1
  have hA : ∀ q : Nat, s.heap.size ≤ q → va_A [(sh, .inr (4, [.null, .int 0]))] s.heap.size q := fun q h => Or.inr h
  generalize hAe : va_A [(sh, .inr (4, [.null, .int 0]))] s.heap.size = A at hna hD hA hZ ⊢
  have hS : va_S A s.heap s.heap [] := va_S.rf
  have hR := hR0
  have hP : va_P D vwCl [(sh, .inr (4, [.null, .int 0]))] s.heap := hP
  have hl := lv_entry ([.ref sh]) (n := 1) (Nat.le_of_ble_eq_true rfl)
  rw [lg_entry_eq]
  generalize (lg_sl ([.ref sh]) ++ List.replicate (1 - (lg_sl ([.ref sh])).length) Slot.unset).toArray = ls at hl ⊢
  have hl : lv_has ls 1 [(0, .ref sh)] := hl
  refine lv_aload_n hx hb dX5_init_0 rfl (lv_at hl 0 rfl) ?_
  refine W.objInit hx hb hown (hts (.methodLink RX5 3 objectInit) (List.mem_of_getElem? (i := 1) rfl)) (hts (.instanceMethod objectInit) (List.mem_of_getElem? (i := 2) rfl)) (hts (.code objectInit ⟨#[0xb1]⟩ 1 none) (List.mem_of_getElem? (i := 3) rfl)) rfl (by rw [hml]; exact hl.1) rfl dX5_init_1 (Nat.le_of_ble_eq_true rfl) (Nat.le_of_ble_eq_true rfl) ?_
  refine W.eq (g2 := F0 mi9 4 ls []) rfl ?_
  refine lv_aload_n hx hb dX5_init_4 rfl (lv_at hl 0 rfl) ?_
  refine lv_bipush (v := nI 40) hx hb dX5_init_5 (by decide) ?_
  refine va_newq (D := D) (C := "FuzzyFens$Entry") (N' := 40) hx hb hown (hts (.classLink RX5 9 RX0) (List.mem_of_getElem? (i := 4) rfl)) hXt.2.2.2.1 hK hP hD hS hA (by decide) (by decide) (Nat.le_of_ble_eq_true rfl) (Nat.le_of_ble_eq_true rfl) (Nat.le_of_ble_eq_true rfl) dX5_init_7 (fun q_1 cA_3 H_2 hK hP hD hS => ?_)
  have hK : va_K D vwCl [(cA_3, .object "FuzzyFens$Entry")] s := hK
  have hP : va_P D vwCl [(sh, .inr (4, [.null, .int 0])), (q_1, .inl (cA_3, 40, .inr (.inr (.inr (.inr (fun _ => (none : Option Nat)))))))] H_2 := hP
  have hD : va_D A [(sh, .inr (4, [.null, .int 0])), (q_1, .inl (cA_3, 40, .inr (.inr (.inr (.inr (fun _ => (none : Option Nat)))))))] := hD
  have hR := q_ro hR0 hna hS
  refine va_putF (D := D) (ci := 4) (v := .ref q_1) (ty := .array (.object "FuzzyFens$Entry")) (C := RX5) (T := TX5) (N := 2) hx hb hts iX5_init_X5 tyX5 tyX5_ok nmX5 hown hK hP hD hS 0 rfl rfl 0 (by decide) (hts (.fieldLink RX5 11 "FuzzyFens$Shelf" "entries" "[LFuzzyFens$Entry;") (List.mem_of_getElem? (i := 5) rfl)) (fun _ h9 => h9) rfl hin rfl (by decide +kernel) rfl rfl (Nat.le_of_ble_eq_true rfl) dX5_init_10 (fun H_4 locs_5 hP hD hS => ?_)
  have hP : va_P D vwCl [(sh, .inr (4, [.ref q_1, .int 0])), (q_1, .inl (cA_3, 40, .inr (.inr (.inr (.inr (fun _ => (none : Option Nat)))))))] H_4 := hP
  have hD : va_D A [(sh, .inr (4, [.ref q_1, .int 0])), (q_1, .inl (cA_3, 40, .inr (.inr (.inr (.inr (fun _ => (none : Option Nat)))))))] := hD
  have hR := q_ro hR0 hna hS
  refine W.widen (k := 1) (n := 40) (Nat.le_of_ble_eq_true rfl) (Nat.le_of_ble_eq_true rfl) ?_
  exact W.vret hx hb hr (fun t9 ht hW => ⟨⟨(q_1, cA_3), rfl, trivial, by show va_P D vwCl _ t9.heap; rw [ht]; exact hP, hD, (va_K.moved hW.alike (hK.sub (tys' := [(cA_3, .object "FuzzyFens$Entry")]) [0] rfl))⟩, hS.F ht⟩) hS.2.2 dX5_init_13

set_option maxRecDepth 20000 in
theorem iX6_init_X5 : ∀ w ∈ wsX50, w ∈ wsX6_init := by decide +kernel
set_option maxRecDepth 20000 in
theorem iX6_init_X6 : ∀ w ∈ wsX60, w ∈ wsX6_init := by decide +kernel
set_option maxHeartbeats 4000000 in
set_option maxRecDepth 100000 in
/-- Tree() -/
theorem c_X6_init (l : Launch) (D : va_G) (sz : Nat) (tr : Nat) (hnd : ([tr] ++ []).Nodup)  : Met l yX6_init wsX6_init { frames := 2, cells := 2, slots := 42, locals := 32 } (va_Pc [.ref tr] (qWx D sz ([]) [(tr, .inr (5, [.null]))] [])) (va_Qv (fun (uv : (Nat) × (Nat) × (ClassId)) => True) (fun (uv : (Nat) × (Nat) × (ClassId)) (tv : State) => va_P D vwCl ([(tr, .inr (5, [.ref uv.1])), (uv.1, .inr (4, [.ref uv.2.1, .int (nI 0)])), (uv.2.1, .inl (uv.2.2, 40, .inr (.inr (.inr (.inr (fun _ => (none : Option Nat)))))))]) tv.heap ∧ va_D (va_A [(tr, .inr (5, [.null]))] sz) ([(tr, .inr (5, [.ref uv.1])), (uv.1, .inr (4, [.ref uv.2.1, .int (nI 0)])), (uv.2.1, .inl (uv.2.2, 40, .inr (.inr (.inr (.inr (fun _ => (none : Option Nat)))))))]) ∧ va_K D vwCl [(uv.2.2, .object "FuzzyFens$Entry")] tv) (va_A [(tr, .inr (5, [.null]))] sz)) 2 42 (va_A [(tr, .inr (5, [.null]))] sz) := by
  refine Met.ofW (cc := cX6_init) (maxL := 1) (ret := none) (by decide) rfl ?_
  intro pM eM s mi9 argsM belowM methM cM sM B hml hv
  obtain ⟨rfl, hsz, hR0, hP, hK, hNw, hZ, hXt⟩ := hv
  have hx := B.exec
  have hb := B.bytes
  have hr := B.returns
  have hts := atoms_spec (ws := wsX6_init) B.pre
  have hown : s.vm.findClass RX6 = some mi9.cls := findClass_of_methodNamed B.named
  have hlocks := B.notSynchronized
  have hin : methM.name = "<init>" := (name_of_methodNamed B.named B.method).1
  subst hsz
  have hna := q_na (RW := [(tr, .inr (5, [.null]))]) (RO := []) hnd rfl rfl hR0
  have hD := q_D (RW := [(tr, .inr (5, [.null]))]) (sz := s.heap.size) hnd rfl
  have hnR : (([] : va_W).map (·.1)).Nodup := by rw [show ([] : va_W).map (·.1) = [] from rfl]; exact (List.nodup_append.mp hnd).2.1
  have hA : ∀ q : Nat, s.heap.size ≤ q → va_A [(tr, .inr (5, [.null]))] s.heap.size q := fun q h => Or.inr h
  generalize hAe : va_A [(tr, .inr (5, [.null]))] s.heap.size = A at hna hD hA hZ ⊢
  have hS : va_S A s.heap s.heap [] := va_S.rf
  have hR := hR0
  have hP : va_P D vwCl [(tr, .inr (5, [.null]))] s.heap := hP
  have hl := lv_entry ([.ref tr]) (n := 1) (Nat.le_of_ble_eq_true rfl)
  rw [lg_entry_eq]
  generalize (lg_sl ([.ref tr]) ++ List.replicate (1 - (lg_sl ([.ref tr])).length) Slot.unset).toArray = ls at hl ⊢
  have hl : lv_has ls 1 [(0, .ref tr)] := hl
  refine lv_aload_n hx hb dX6_init_0 rfl (lv_at hl 0 rfl) ?_
  refine W.objInit hx hb hown (hts (.methodLink RX6 3 objectInit) (List.mem_of_getElem? (i := 1) rfl)) (hts (.instanceMethod objectInit) (List.mem_of_getElem? (i := 2) rfl)) (hts (.code objectInit ⟨#[0xb1]⟩ 1 none) (List.mem_of_getElem? (i := 3) rfl)) rfl (by rw [hml]; exact hl.1) rfl dX6_init_1 (Nat.le_of_ble_eq_true rfl) (Nat.le_of_ble_eq_true rfl) ?_
  refine W.eq (g2 := F0 mi9 4 ls []) rfl ?_
  refine lv_aload_n hx hb dX6_init_4 rfl (lv_at hl 0 rfl) ?_
  refine va_new (D := D) (ci := 4) (fs := [.null, .int 0]) (C := RX5) (T := TX5) (N := 2) hx hb hts iX6_init_X5 tyX5 tyX5_ok hown (hts (.classLink RX6 9 RX5) (List.mem_of_getElem? (i := 4) rfl)) (hts (.instantiable RX5 2) (List.mem_of_getElem? (i := 5) rfl)) (hts (.initialized RX5) (List.mem_of_getElem? (i := 6) rfl)) hK hP hD hS hA rfl (fun j9 h9 => by rcases (show j9 = 0 ∨ j9 = 1 by omega) with rfl | rfl <;> rfl) (Nat.le_of_ble_eq_true rfl) (Nat.le_of_ble_eq_true rfl) dX6_init_5 (fun q_1 H_2 hP hD hS => ?_)
  have hP : va_P D vwCl [(tr, .inr (5, [.null])), (q_1, .inr (4, [.null, .int 0]))] H_2 := hP
  have hD : va_D A [(tr, .inr (5, [.null])), (q_1, .inr (4, [.null, .int 0]))] := hD
  have hR := q_ro hR0 hna hS
  refine lv_dup hx hb dX6_init_8 rfl ?_
  have hF := va_free (wc := [(q_1, .inr (4, [.null, .int 0]))]) hD hS hA [1] rfl
  refine va_callv (va_runIN (host := "FuzzyFens") (own := RX6) (As := []) (rest := [.ref q_1, .ref tr]) ⟨hx, hb, hml, hown, hts⟩ (c_X5_init (l := l) (D := D) (sh := q_1) (sz := H_2.size) (hnd := (q_nds (q_ndg (l1 := [tr, q_1]) (l2 := []) hD hnR hna rfl rfl) [1] rfl rfl)) ) ⟨va_cnB 0 hts gX6_init_X5_init_n11 rfl rfl rfl (hNw.2 ("FuzzyFens$Tree", 11, ⟨"FuzzyFens$Shelf", "<init>", "()V"⟩) (List.mem_of_getElem? (i := 3) rfl)) (hts (.initialized RX5) (List.mem_of_getElem? (i := 6) rfl)) (by decide +kernel) ⟨Nat.le_of_ble_eq_true rfl, Nat.le_of_ble_eq_true rfl⟩, rfl, (hts (.instanceMethod yX5_init) (List.mem_of_getElem? (i := 8) rfl))⟩ ⟨qWx_blind, (qWx_of (q_Pof (fun _ h => absurd h List.not_mem_nil)) (hP.sub (ws' := [(q_1, .inr (4, [.null, .int 0]))]) [1] rfl) (hK.sub (tys' := []) [] rfl) hNw (qZ_at hZ hS (fun q h => hF q h)) hXt)⟩ rfl rfl hl.1 rfl (lv_room (Nat.le_of_ble_eq_true rfl)) dX6_init_9 ⟨Nat.le_of_ble_eq_true rfl, Nat.le_of_ble_eq_true rfl⟩) hS (fun q _ h => hF q h) hF (fun u_7 t_6 H_4 locs_5 ht hvm hr_3 hB hz1 hk1 hS => ?_)
  obtain ⟨ar_8, cS_9⟩ := u_7
  dsimp only at hr_3 hB
  obtain ⟨hB1, hB2, hB3⟩ := hB
  replace hB1 : va_P D vwCl ([(q_1, .inr (4, [.ref ar_8, .int (nI 0)]))] ++ [(ar_8, .inl (cS_9, 40, .inr (.inr (.inr (.inr (fun _ => (none : Option Nat)))))))]) H_4 := by rw [← ht]; exact hB1
  obtain ⟨hP, hD⟩ := q_joinN (wc := [(q_1, .inr (4, [.null, .int 0]))]) (w1 := [(q_1, .inr (4, [.ref ar_8, .int (nI 0)]))]) (wn := [(ar_8, .inl (cS_9, 40, .inr (.inr (.inr (.inr (fun _ => (none : Option Nat)))))))]) (ws' := [(tr, .inr (5, [.null])), (q_1, .inr (4, [.ref ar_8, .int (nI 0)]))]) [1] hP hD rfl rfl hk1 hF hB1 hB2 rfl
  have hK : va_K D vwCl [(cS_9, .object "FuzzyFens$Entry")] s := hK.app (va_K.moved hvm.symm hB3)
  have hP : va_P D vwCl [(tr, .inr (5, [.null])), (q_1, .inr (4, [.ref ar_8, .int (nI 0)])), (ar_8, .inl (cS_9, 40, .inr (.inr (.inr (.inr (fun _ => (none : Option Nat)))))))] H_4 := hP
  have hD : va_D A [(tr, .inr (5, [.null])), (q_1, .inr (4, [.ref ar_8, .int (nI 0)])), (ar_8, .inl (cS_9, 40, .inr (.inr (.inr (.inr (fun _ => (none : Option Nat)))))))] := hD
  have hR := q_ro hR0 hna hS
  refine va_putF (D := D) (ci := 5) (v := .ref q_1) (ty := .object "FuzzyFens$Shelf") (C := RX6) (T := TX6) (N := 1) hx hb hts iX6_init_X6 tyX6 tyX6_ok nmX6 hown hK hP hD hS 0 rfl rfl 0 (by decide) (hts (.fieldLink RX6 12 "FuzzyFens$Tree" "nodes" "LFuzzyFens$Shelf;") (List.mem_of_getElem? (i := 7) rfl)) (fun _ h9 => h9) rfl hin rfl (by decide +kernel) rfl rfl (Nat.le_of_ble_eq_true rfl) dX6_init_12 (fun H_10 locs_11 hP hD hS => ?_)
  have hP : va_P D vwCl [(tr, .inr (5, [.ref q_1])), (q_1, .inr (4, [.ref ar_8, .int (nI 0)])), (ar_8, .inl (cS_9, 40, .inr (.inr (.inr (.inr (fun _ => (none : Option Nat)))))))] H_10 := hP
  have hD : va_D A [(tr, .inr (5, [.ref q_1])), (q_1, .inr (4, [.ref ar_8, .int (nI 0)])), (ar_8, .inl (cS_9, 40, .inr (.inr (.inr (.inr (fun _ => (none : Option Nat)))))))] := hD
  have hR := q_ro hR0 hna hS
  refine W.widen (k := 2) (n := 42) (Nat.le_of_ble_eq_true rfl) (Nat.le_of_ble_eq_true rfl) ?_
  exact W.vret hx hb hr (fun t9 ht hW => ⟨⟨(q_1, ar_8, cS_9), rfl, trivial, by show va_P D vwCl _ t9.heap; rw [ht]; exact hP, hD, (va_K.moved hW.alike (hK.sub (tys' := [(cS_9, .object "FuzzyFens$Entry")]) [0] rfl))⟩, hS.F ht⟩) hS.2.2 dX6_init_15

set_option maxRecDepth 20000 in
theorem iX4_init_401_X4 : ∀ w ∈ wsX40, w ∈ wsX4_init := by decide +kernel
set_option maxHeartbeats 4000000 in
set_option maxRecDepth 100000 in
/-- NumberSet(most) -/
theorem c_X4_init_401 (l : Launch) (D : va_G) (sz : Nat) (ns : Nat) (hnd : ([ns] ++ []).Nodup)  : Met l yX4_init wsX4_init { frames := 1, cells := 1, slots := 401, locals := 12 } (va_Pc [.ref ns, .int (nI 401)] (qW D sz ([]) [(ns, .inr (3, [.null, .int 0]))] [])) (va_Qv (fun (uv : (Nat) × (ClassId)) => True) (fun (uv : (Nat) × (ClassId)) (tv : State) => va_P D vwCl ([(ns, .inr (3, [.ref uv.1, .int (nI 0)])), (uv.1, .inl (uv.2, 401, .inr (.inl (fun _ => (0 : Int64)))))]) tv.heap ∧ va_D (va_A [(ns, .inr (3, [.null, .int 0]))] sz) ([(ns, .inr (3, [.ref uv.1, .int (nI 0)])), (uv.1, .inl (uv.2, 401, .inr (.inl (fun _ => (0 : Int64)))))]) ∧ va_K D vwCl [(uv.2, .long)] tv) (va_A [(ns, .inr (3, [.null, .int 0]))] sz)) 1 401 (va_A [(ns, .inr (3, [.null, .int 0]))] sz) := by
  refine Met.ofW (cc := cX4_init) (maxL := 2) (ret := none) (by decide) rfl ?_
  intro pM eM s mi9 argsM belowM methM cM sM B hml hv
  obtain ⟨rfl, hsz, hR0, hP, hK, hNw⟩ := hv
  have hx := B.exec
  have hb := B.bytes
  have hr := B.returns
  have hts := atoms_spec (ws := wsX4_init) B.pre
  have hown : s.vm.findClass RX4 = some mi9.cls := findClass_of_methodNamed B.named
  have hlocks := B.notSynchronized
  have hin : methM.name = "<init>" := (name_of_methodNamed B.named B.method).1
  subst hsz
  have hna := q_na (RW := [(ns, .inr (3, [.null, .int 0]))]) (RO := []) hnd rfl rfl hR0
  have hD := q_D (RW := [(ns, .inr (3, [.null, .int 0]))]) (sz := s.heap.size) hnd rfl
  have hnR : (([] : va_W).map (·.1)).Nodup := by rw [show ([] : va_W).map (·.1) = [] from rfl]; exact (List.nodup_append.mp hnd).2.1
  have hA : ∀ q : Nat, s.heap.size ≤ q → va_A [(ns, .inr (3, [.null, .int 0]))] s.heap.size q := fun q h => Or.inr h
  generalize hAe : va_A [(ns, .inr (3, [.null, .int 0]))] s.heap.size = A at hna hD hA ⊢
  have hS : va_S A s.heap s.heap [] := va_S.rf
  have hR := hR0
  have hP : va_P D vwCl [(ns, .inr (3, [.null, .int 0]))] s.heap := hP
  have hl := lv_entry ([.ref ns, .int (nI 401)]) (n := 2) (Nat.le_of_ble_eq_true rfl)
  rw [lg_entry_eq]
  generalize (lg_sl ([.ref ns, .int (nI 401)]) ++ List.replicate (2 - (lg_sl ([.ref ns, .int (nI 401)])).length) Slot.unset).toArray = ls at hl ⊢
  have hl : lv_has ls 2 [(0, .ref ns), (1, .int (nI 401))] := hl
  refine lv_aload_n hx hb dX4_init_0 rfl (lv_at hl 0 rfl) ?_
  refine W.objInit hx hb hown (hts (.methodLink RX4 1 objectInit) (List.mem_of_getElem? (i := 1) rfl)) (hts (.instanceMethod objectInit) (List.mem_of_getElem? (i := 2) rfl)) (hts (.code objectInit ⟨#[0xb1]⟩ 1 none) (List.mem_of_getElem? (i := 3) rfl)) rfl (by rw [hml]; exact hl.1) rfl dX4_init_1 (Nat.le_of_ble_eq_true rfl) (Nat.le_of_ble_eq_true rfl) ?_
  refine W.eq (g2 := F0 mi9 4 ls []) rfl ?_
  refine lv_aload_n hx hb dX4_init_4 rfl (lv_at hl 0 rfl) ?_
  refine lv_iload_n hx hb dX4_init_5 rfl (lv_at hl 1 rfl) ?_
  refine lv_if_le (tgt := 13) hx hb dX4_init_6 (by decide) (fun c9 => absurd c9 (by decide)) (fun _ => ?_)
  refine lv_iload_n hx hb dX4_init_9 rfl (lv_at hl 1 rfl) ?_
  refine lv_goto (tgt := 14) hx hb dX4_init_10 (by decide) ?_
  refine va_newa (D := D) (atype := .long) (ty := .long) (N' := 401) (a0 := (401, .inr (.inl (fun _ => (0 : Int64))))) hx hb (hts (.arrayClass .long) (List.mem_of_getElem? (i := 4) rfl)) rfl hK hP hD hS hA (fun _ => rfl) (by decide) (by decide) (Nat.le_of_ble_eq_true rfl) (Nat.le_of_ble_eq_true rfl) (Nat.le_of_ble_eq_true rfl) dX4_init_14 (fun q_1 cA_3 H_2 hK hP hD hS => ?_)
  have hK : va_K D vwCl [(cA_3, .long)] s := hK
  have hP : va_P D vwCl [(ns, .inr (3, [.null, .int 0])), (q_1, .inl (cA_3, 401, .inr (.inl (fun _ => (0 : Int64)))))] H_2 := hP
  have hD : va_D A [(ns, .inr (3, [.null, .int 0])), (q_1, .inl (cA_3, 401, .inr (.inl (fun _ => (0 : Int64)))))] := hD
  have hR := q_ro hR0 hna hS
  refine va_putF (D := D) (ci := 3) (v := .ref q_1) (ty := .array .long) (C := RX4) (T := TX4) (N := 2) hx hb hts iX4_init_401_X4 tyX4 tyX4_ok nmX4 hown hK hP hD hS 0 rfl rfl 0 (by decide) (hts (.fieldLink RX4 7 "FuzzyFens$NumberSet" "numbers" "[J") (List.mem_of_getElem? (i := 5) rfl)) (fun _ h9 => h9) rfl hin rfl (by decide +kernel) rfl rfl (Nat.le_of_ble_eq_true rfl) dX4_init_16 (fun H_4 locs_5 hP hD hS => ?_)
  have hP : va_P D vwCl [(ns, .inr (3, [.ref q_1, .int 0])), (q_1, .inl (cA_3, 401, .inr (.inl (fun _ => (0 : Int64)))))] H_4 := hP
  have hD : va_D A [(ns, .inr (3, [.ref q_1, .int 0])), (q_1, .inl (cA_3, 401, .inr (.inl (fun _ => (0 : Int64)))))] := hD
  have hR := q_ro hR0 hna hS
  refine W.widen (k := 1) (n := 401) (Nat.le_of_ble_eq_true rfl) (Nat.le_of_ble_eq_true rfl) ?_
  exact W.vret hx hb hr (fun t9 ht hW => ⟨⟨(q_1, cA_3), rfl, trivial, by show va_P D vwCl _ t9.heap; rw [ht]; exact hP, hD, (va_K.moved hW.alike (hK.sub (tys' := [(cA_3, .long)]) [0] rfl))⟩, hS.F ht⟩) hS.2.2 dX4_init_19

set_option maxRecDepth 20000 in
theorem iX4_init_56_X4 : ∀ w ∈ wsX40, w ∈ wsX4_init := by decide +kernel
set_option maxHeartbeats 4000000 in
set_option maxRecDepth 100000 in
/-- NumberSet(most) -/
theorem c_X4_init_56 (l : Launch) (D : va_G) (sz : Nat) (ns : Nat) (hnd : ([ns] ++ []).Nodup)  : Met l yX4_init wsX4_init { frames := 1, cells := 1, slots := 56, locals := 12 } (va_Pc [.ref ns, .int (nI 56)] (qW D sz ([]) [(ns, .inr (3, [.null, .int 0]))] [])) (va_Qv (fun (uv : (Nat) × (ClassId)) => True) (fun (uv : (Nat) × (ClassId)) (tv : State) => va_P D vwCl ([(ns, .inr (3, [.ref uv.1, .int (nI 0)])), (uv.1, .inl (uv.2, 56, .inr (.inl (fun _ => (0 : Int64)))))]) tv.heap ∧ va_D (va_A [(ns, .inr (3, [.null, .int 0]))] sz) ([(ns, .inr (3, [.ref uv.1, .int (nI 0)])), (uv.1, .inl (uv.2, 56, .inr (.inl (fun _ => (0 : Int64)))))]) ∧ va_K D vwCl [(uv.2, .long)] tv) (va_A [(ns, .inr (3, [.null, .int 0]))] sz)) 1 56 (va_A [(ns, .inr (3, [.null, .int 0]))] sz) := by
  refine Met.ofW (cc := cX4_init) (maxL := 2) (ret := none) (by decide) rfl ?_
  intro pM eM s mi9 argsM belowM methM cM sM B hml hv
  obtain ⟨rfl, hsz, hR0, hP, hK, hNw⟩ := hv
  have hx := B.exec
  have hb := B.bytes
  have hr := B.returns
  have hts := atoms_spec (ws := wsX4_init) B.pre
  have hown : s.vm.findClass RX4 = some mi9.cls := findClass_of_methodNamed B.named
  have hlocks := B.notSynchronized
  have hin : methM.name = "<init>" := (name_of_methodNamed B.named B.method).1
  subst hsz
  have hna := q_na (RW := [(ns, .inr (3, [.null, .int 0]))]) (RO := []) hnd rfl rfl hR0
  have hD := q_D (RW := [(ns, .inr (3, [.null, .int 0]))]) (sz := s.heap.size) hnd rfl
  have hnR : (([] : va_W).map (·.1)).Nodup := by rw [show ([] : va_W).map (·.1) = [] from rfl]; exact (List.nodup_append.mp hnd).2.1
  have hA : ∀ q : Nat, s.heap.size ≤ q → va_A [(ns, .inr (3, [.null, .int 0]))] s.heap.size q := fun q h => Or.inr h
  generalize hAe : va_A [(ns, .inr (3, [.null, .int 0]))] s.heap.size = A at hna hD hA ⊢
  have hS : va_S A s.heap s.heap [] := va_S.rf
  have hR := hR0
  have hP : va_P D vwCl [(ns, .inr (3, [.null, .int 0]))] s.heap := hP
  have hl := lv_entry ([.ref ns, .int (nI 56)]) (n := 2) (Nat.le_of_ble_eq_true rfl)
  rw [lg_entry_eq]
  generalize (lg_sl ([.ref ns, .int (nI 56)]) ++ List.replicate (2 - (lg_sl ([.ref ns, .int (nI 56)])).length) Slot.unset).toArray = ls at hl ⊢
  have hl : lv_has ls 2 [(0, .ref ns), (1, .int (nI 56))] := hl
  refine lv_aload_n hx hb dX4_init_0 rfl (lv_at hl 0 rfl) ?_
  refine W.objInit hx hb hown (hts (.methodLink RX4 1 objectInit) (List.mem_of_getElem? (i := 1) rfl)) (hts (.instanceMethod objectInit) (List.mem_of_getElem? (i := 2) rfl)) (hts (.code objectInit ⟨#[0xb1]⟩ 1 none) (List.mem_of_getElem? (i := 3) rfl)) rfl (by rw [hml]; exact hl.1) rfl dX4_init_1 (Nat.le_of_ble_eq_true rfl) (Nat.le_of_ble_eq_true rfl) ?_
  refine W.eq (g2 := F0 mi9 4 ls []) rfl ?_
  refine lv_aload_n hx hb dX4_init_4 rfl (lv_at hl 0 rfl) ?_
  refine lv_iload_n hx hb dX4_init_5 rfl (lv_at hl 1 rfl) ?_
  refine lv_if_le (tgt := 13) hx hb dX4_init_6 (by decide) (fun c9 => absurd c9 (by decide)) (fun _ => ?_)
  refine lv_iload_n hx hb dX4_init_9 rfl (lv_at hl 1 rfl) ?_
  refine lv_goto (tgt := 14) hx hb dX4_init_10 (by decide) ?_
  refine va_newa (D := D) (atype := .long) (ty := .long) (N' := 56) (a0 := (56, .inr (.inl (fun _ => (0 : Int64))))) hx hb (hts (.arrayClass .long) (List.mem_of_getElem? (i := 4) rfl)) rfl hK hP hD hS hA (fun _ => rfl) (by decide) (by decide) (Nat.le_of_ble_eq_true rfl) (Nat.le_of_ble_eq_true rfl) (Nat.le_of_ble_eq_true rfl) dX4_init_14 (fun q_1 cA_3 H_2 hK hP hD hS => ?_)
  have hK : va_K D vwCl [(cA_3, .long)] s := hK
  have hP : va_P D vwCl [(ns, .inr (3, [.null, .int 0])), (q_1, .inl (cA_3, 56, .inr (.inl (fun _ => (0 : Int64)))))] H_2 := hP
  have hD : va_D A [(ns, .inr (3, [.null, .int 0])), (q_1, .inl (cA_3, 56, .inr (.inl (fun _ => (0 : Int64)))))] := hD
  have hR := q_ro hR0 hna hS
  refine va_putF (D := D) (ci := 3) (v := .ref q_1) (ty := .array .long) (C := RX4) (T := TX4) (N := 2) hx hb hts iX4_init_56_X4 tyX4 tyX4_ok nmX4 hown hK hP hD hS 0 rfl rfl 0 (by decide) (hts (.fieldLink RX4 7 "FuzzyFens$NumberSet" "numbers" "[J") (List.mem_of_getElem? (i := 5) rfl)) (fun _ h9 => h9) rfl hin rfl (by decide +kernel) rfl rfl (Nat.le_of_ble_eq_true rfl) dX4_init_16 (fun H_4 locs_5 hP hD hS => ?_)
  have hP : va_P D vwCl [(ns, .inr (3, [.ref q_1, .int 0])), (q_1, .inl (cA_3, 56, .inr (.inl (fun _ => (0 : Int64)))))] H_4 := hP
  have hD : va_D A [(ns, .inr (3, [.ref q_1, .int 0])), (q_1, .inl (cA_3, 56, .inr (.inl (fun _ => (0 : Int64)))))] := hD
  have hR := q_ro hR0 hna hS
  refine W.widen (k := 1) (n := 56) (Nat.le_of_ble_eq_true rfl) (Nat.le_of_ble_eq_true rfl) ?_
  exact W.vret hx hb hr (fun t9 ht hW => ⟨⟨(q_1, cA_3), rfl, trivial, by show va_P D vwCl _ t9.heap; rw [ht]; exact hP, hD, (va_K.moved hW.alike (hK.sub (tys' := [(cA_3, .long)]) [0] rfl))⟩, hS.F ht⟩) hS.2.2 dX4_init_19

set_option maxRecDepth 20000 in
theorem iX7_init_X4 : ∀ w ∈ wsX40, w ∈ wsX7_init := by decide +kernel
set_option maxRecDepth 20000 in
theorem iX7_init_X7 : ∀ w ∈ wsX70, w ∈ wsX7_init := by decide +kernel
set_option maxHeartbeats 4000000 in
set_option maxRecDepth 100000 in
/-- Trie() -/
theorem c_X7_init (l : Launch) (D : va_G) (sz : Nat) (t : Nat) (hnd : ([t] ++ []).Nodup)  : Met l yX7_init wsX7_init { frames := 2, cells := 2, slots := 403, locals := 33 } (va_Pc [.ref t] (qW D sz ([]) [(t, .inr (6, [.null]))] [])) (va_Qv (fun (uv : (Nat) × (Nat) × (ClassId)) => True) (fun (uv : (Nat) × (Nat) × (ClassId)) (tv : State) => va_P D vwCl ([(t, .inr (6, [.ref uv.1])), (uv.1, .inr (3, [.ref uv.2.1, .int (nI 0)])), (uv.2.1, .inl (uv.2.2, 401, .inr (.inl (fun _ => (0 : Int64)))))]) tv.heap ∧ va_D (va_A [(t, .inr (6, [.null]))] sz) ([(t, .inr (6, [.ref uv.1])), (uv.1, .inr (3, [.ref uv.2.1, .int (nI 0)])), (uv.2.1, .inl (uv.2.2, 401, .inr (.inl (fun _ => (0 : Int64)))))]) ∧ va_K D vwCl [(uv.2.2, .long)] tv) (va_A [(t, .inr (6, [.null]))] sz)) 2 403 (va_A [(t, .inr (6, [.null]))] sz) := by
  refine Met.ofW (cc := cX7_init) (maxL := 1) (ret := none) (by decide) rfl ?_
  intro pM eM s mi9 argsM belowM methM cM sM B hml hv
  obtain ⟨rfl, hsz, hR0, hP, hK, hNw⟩ := hv
  have hx := B.exec
  have hb := B.bytes
  have hr := B.returns
  have hts := atoms_spec (ws := wsX7_init) B.pre
  have hown : s.vm.findClass RX7 = some mi9.cls := findClass_of_methodNamed B.named
  have hlocks := B.notSynchronized
  have hin : methM.name = "<init>" := (name_of_methodNamed B.named B.method).1
  subst hsz
  have hna := q_na (RW := [(t, .inr (6, [.null]))]) (RO := []) hnd rfl rfl hR0
  have hD := q_D (RW := [(t, .inr (6, [.null]))]) (sz := s.heap.size) hnd rfl
  have hnR : (([] : va_W).map (·.1)).Nodup := by rw [show ([] : va_W).map (·.1) = [] from rfl]; exact (List.nodup_append.mp hnd).2.1
  have hA : ∀ q : Nat, s.heap.size ≤ q → va_A [(t, .inr (6, [.null]))] s.heap.size q := fun q h => Or.inr h
  generalize hAe : va_A [(t, .inr (6, [.null]))] s.heap.size = A at hna hD hA ⊢
  have hS : va_S A s.heap s.heap [] := va_S.rf
  have hR := hR0
  have hP : va_P D vwCl [(t, .inr (6, [.null]))] s.heap := hP
  have hl := lv_entry ([.ref t]) (n := 1) (Nat.le_of_ble_eq_true rfl)
  rw [lg_entry_eq]
  generalize (lg_sl ([.ref t]) ++ List.replicate (1 - (lg_sl ([.ref t])).length) Slot.unset).toArray = ls at hl ⊢
  have hl : lv_has ls 1 [(0, .ref t)] := hl
  refine lv_aload_n hx hb dX7_init_0 rfl (lv_at hl 0 rfl) ?_
  refine W.objInit hx hb hown (hts (.methodLink RX7 3 objectInit) (List.mem_of_getElem? (i := 1) rfl)) (hts (.instanceMethod objectInit) (List.mem_of_getElem? (i := 2) rfl)) (hts (.code objectInit ⟨#[0xb1]⟩ 1 none) (List.mem_of_getElem? (i := 3) rfl)) rfl (by rw [hml]; exact hl.1) rfl dX7_init_1 (Nat.le_of_ble_eq_true rfl) (Nat.le_of_ble_eq_true rfl) ?_
  refine W.eq (g2 := F0 mi9 4 ls []) rfl ?_
  refine lv_aload_n hx hb dX7_init_4 rfl (lv_at hl 0 rfl) ?_
  refine va_new (D := D) (ci := 3) (fs := [.null, .int 0]) (C := RX4) (T := TX4) (N := 2) hx hb hts iX7_init_X4 tyX4 tyX4_ok hown (hts (.classLink RX7 9 RX4) (List.mem_of_getElem? (i := 4) rfl)) (hts (.instantiable RX4 2) (List.mem_of_getElem? (i := 5) rfl)) (hts (.initialized RX4) (List.mem_of_getElem? (i := 6) rfl)) hK hP hD hS hA rfl (fun j9 h9 => by rcases (show j9 = 0 ∨ j9 = 1 by omega) with rfl | rfl <;> rfl) (Nat.le_of_ble_eq_true rfl) (Nat.le_of_ble_eq_true rfl) dX7_init_5 (fun q_1 H_2 hP hD hS => ?_)
  have hP : va_P D vwCl [(t, .inr (6, [.null])), (q_1, .inr (3, [.null, .int 0]))] H_2 := hP
  have hD : va_D A [(t, .inr (6, [.null])), (q_1, .inr (3, [.null, .int 0]))] := hD
  have hR := q_ro hR0 hna hS
  refine lv_dup hx hb dX7_init_8 rfl ?_
  refine lv_sipush (v := nI 401) hx hb dX7_init_9 (by decide) ?_
  have hF := va_free (wc := [(q_1, .inr (3, [.null, .int 0]))]) hD hS hA [1] rfl
  refine va_callv (va_runI (As := [.int (nI 401)]) (rest := [.ref q_1, .ref t]) ⟨hx, hb, hml, hown, hts⟩ (c_X4_init_401 (l := l) (D := D) (ns := q_1) (sz := H_2.size) (hnd := (q_nds (q_ndg (l1 := [t, q_1]) (l2 := []) hD hnR hna rfl rfl) [1] rfl rfl)) ) (cwI 1 hts ggX7_init_X4_init rfl rfl rfl (hts (.initialized RX4) (List.mem_of_getElem? (i := 6) rfl)) (hts (.methodLink RX7 11 yX4_init) (List.mem_of_getElem? (i := 8) rfl)) (hts (.instanceMethod yX4_init) (List.mem_of_getElem? (i := 9) rfl)) rfl (by decide +kernel) ⟨Nat.le_of_ble_eq_true rfl, Nat.le_of_ble_eq_true rfl⟩) ⟨qW_blind, (qW_of (q_Pof (fun _ h => absurd h List.not_mem_nil)) (hP.sub (ws' := [(q_1, .inr (3, [.null, .int 0]))]) [1] rfl) (hK.sub (tys' := []) [] rfl) hNw)⟩ rfl rfl hl.1 rfl (lv_room (Nat.le_of_ble_eq_true rfl)) dX7_init_12 ⟨Nat.le_of_ble_eq_true rfl, Nat.le_of_ble_eq_true rfl⟩) hS (fun q _ h => hF q h) hF (fun u_7 t_6 H_4 locs_5 ht hvm hr_3 hB hz1 hk1 hS => ?_)
  obtain ⟨na_8, cJ_9⟩ := u_7
  dsimp only at hr_3 hB
  obtain ⟨hB1, hB2, hB3⟩ := hB
  replace hB1 : va_P D vwCl ([(q_1, .inr (3, [.ref na_8, .int (nI 0)]))] ++ [(na_8, .inl (cJ_9, 401, .inr (.inl (fun _ => (0 : Int64)))))]) H_4 := by rw [← ht]; exact hB1
  obtain ⟨hP, hD⟩ := q_joinN (wc := [(q_1, .inr (3, [.null, .int 0]))]) (w1 := [(q_1, .inr (3, [.ref na_8, .int (nI 0)]))]) (wn := [(na_8, .inl (cJ_9, 401, .inr (.inl (fun _ => (0 : Int64)))))]) (ws' := [(t, .inr (6, [.null])), (q_1, .inr (3, [.ref na_8, .int (nI 0)]))]) [1] hP hD rfl rfl hk1 hF hB1 hB2 rfl
  have hK : va_K D vwCl [(cJ_9, .long)] s := hK.app (va_K.moved hvm.symm hB3)
  have hP : va_P D vwCl [(t, .inr (6, [.null])), (q_1, .inr (3, [.ref na_8, .int (nI 0)])), (na_8, .inl (cJ_9, 401, .inr (.inl (fun _ => (0 : Int64)))))] H_4 := hP
  have hD : va_D A [(t, .inr (6, [.null])), (q_1, .inr (3, [.ref na_8, .int (nI 0)])), (na_8, .inl (cJ_9, 401, .inr (.inl (fun _ => (0 : Int64)))))] := hD
  have hR := q_ro hR0 hna hS
  refine va_putF (D := D) (ci := 6) (v := .ref q_1) (ty := .object "FuzzyFens$NumberSet") (C := RX7) (T := TX7) (N := 1) hx hb hts iX7_init_X7 tyX7 tyX7_ok nmX7 hown hK hP hD hS 0 rfl rfl 0 (by decide) (hts (.fieldLink RX7 14 "FuzzyFens$Trie" "packedRows" "LFuzzyFens$NumberSet;") (List.mem_of_getElem? (i := 7) rfl)) (fun _ h9 => h9) rfl hin rfl (by decide +kernel) rfl rfl (Nat.le_of_ble_eq_true rfl) dX7_init_15 (fun H_10 locs_11 hP hD hS => ?_)
  have hP : va_P D vwCl [(t, .inr (6, [.ref q_1])), (q_1, .inr (3, [.ref na_8, .int (nI 0)])), (na_8, .inl (cJ_9, 401, .inr (.inl (fun _ => (0 : Int64)))))] H_10 := hP
  have hD : va_D A [(t, .inr (6, [.ref q_1])), (q_1, .inr (3, [.ref na_8, .int (nI 0)])), (na_8, .inl (cJ_9, 401, .inr (.inl (fun _ => (0 : Int64)))))] := hD
  have hR := q_ro hR0 hna hS
  refine W.widen (k := 2) (n := 403) (Nat.le_of_ble_eq_true rfl) (Nat.le_of_ble_eq_true rfl) ?_
  exact W.vret hx hb hr (fun t9 ht hW => ⟨⟨(q_1, na_8, cJ_9), rfl, trivial, by show va_P D vwCl _ t9.heap; rw [ht]; exact hP, hD, (va_K.moved hW.alike (hK.sub (tys' := [(cJ_9, .long)]) [0] rfl))⟩, hS.F ht⟩) hS.2.2 dX7_init_18

set_option maxRecDepth 20000 in
theorem iX9_init_X1 : ∀ w ∈ wsX10, w ∈ wsX9_init := by decide +kernel
set_option maxRecDepth 20000 in
theorem iX9_init_X4 : ∀ w ∈ wsX40, w ∈ wsX9_init := by decide +kernel
set_option maxRecDepth 20000 in
theorem iX9_init_X5 : ∀ w ∈ wsX50, w ∈ wsX9_init := by decide +kernel
set_option maxRecDepth 20000 in
theorem iX9_init_X6 : ∀ w ∈ wsX60, w ∈ wsX9_init := by decide +kernel
set_option maxRecDepth 20000 in
theorem iX9_init_X7 : ∀ w ∈ wsX70, w ∈ wsX9_init := by decide +kernel
set_option maxRecDepth 20000 in
theorem iX9_init_X9 : ∀ w ∈ wsX90, w ∈ wsX9_init := by decide +kernel
set_option maxHeartbeats 4000000 in
set_option maxRecDepth 100000 in
/-- FuzzyFens() -/
theorem c_X9_init (l : Launch) (D : va_G) (sz : Nat) (x : Nat) (hnd : ([x] ++ []).Nodup)  : Met l yX9_init wsX9_init { frames := 3, cells := 15, slots := 712, locals := 53 } (va_Pc [.ref x] (qWx D sz ([]) [(x, .inr (8, [.null, .null, .null, .null, .null, .null]))] [])) (va_Qv (fun (uv : (Nat) × (Nat) × (Nat) × (ClassId) × (Nat) × (Nat) × (Nat) × (ClassId) × (Nat) × (Nat) × (Nat) × (ClassId) × (Nat) × (Nat) × (ClassId) × (Nat) × (Nat) × (ClassId) × (Nat) × (Nat) × (ClassId)) => True) (fun (uv : (Nat) × (Nat) × (Nat) × (ClassId) × (Nat) × (Nat) × (Nat) × (ClassId) × (Nat) × (Nat) × (Nat) × (ClassId) × (Nat) × (Nat) × (ClassId) × (Nat) × (Nat) × (ClassId) × (Nat) × (Nat) × (ClassId)) (tv : State) => va_P D vwCl ([(x, .inr (8, [.ref uv.1, .ref uv.2.2.2.2.1, .ref uv.2.2.2.2.2.2.2.2.1, .ref uv.2.2.2.2.2.2.2.2.2.2.2.2.1, .ref uv.2.2.2.2.2.2.2.2.2.2.2.2.2.2.2.1, .ref uv.2.2.2.2.2.2.2.2.2.2.2.2.2.2.2.2.2.2.1])), (uv.1, .inr (1, [.ref uv.2.1])), (uv.2.1, .inr (2, [.ref uv.2.2.1])), (uv.2.2.1, .inl (uv.2.2.2.1, 121, .inl (fun _ => (0 : Int32)))), (uv.2.2.2.2.1, .inr (5, [.ref uv.2.2.2.2.2.1])), (uv.2.2.2.2.2.1, .inr (4, [.ref uv.2.2.2.2.2.2.1, .int (nI 0)])), (uv.2.2.2.2.2.2.1, .inl (uv.2.2.2.2.2.2.2.1, 40, .inr (.inr (.inr (.inr (fun _ => (none : Option Nat))))))), (uv.2.2.2.2.2.2.2.2.1, .inr (6, [.ref uv.2.2.2.2.2.2.2.2.2.1])), (uv.2.2.2.2.2.2.2.2.2.1, .inr (3, [.ref uv.2.2.2.2.2.2.2.2.2.2.1, .int (nI 0)])), (uv.2.2.2.2.2.2.2.2.2.2.1, .inl (uv.2.2.2.2.2.2.2.2.2.2.2.1, 401, .inr (.inl (fun _ => (0 : Int64))))), (uv.2.2.2.2.2.2.2.2.2.2.2.2.1, .inr (4, [.ref uv.2.2.2.2.2.2.2.2.2.2.2.2.2.1, .int (nI 0)])), (uv.2.2.2.2.2.2.2.2.2.2.2.2.2.1, .inl (uv.2.2.2.2.2.2.2.2.2.2.2.2.2.2.1, 40, .inr (.inr (.inr (.inr (fun _ => (none : Option Nat))))))), (uv.2.2.2.2.2.2.2.2.2.2.2.2.2.2.2.1, .inr (4, [.ref uv.2.2.2.2.2.2.2.2.2.2.2.2.2.2.2.2.1, .int (nI 0)])), (uv.2.2.2.2.2.2.2.2.2.2.2.2.2.2.2.2.1, .inl (uv.2.2.2.2.2.2.2.2.2.2.2.2.2.2.2.2.2.1, 40, .inr (.inr (.inr (.inr (fun _ => (none : Option Nat))))))), (uv.2.2.2.2.2.2.2.2.2.2.2.2.2.2.2.2.2.2.1, .inr (3, [.ref uv.2.2.2.2.2.2.2.2.2.2.2.2.2.2.2.2.2.2.2.1, .int (nI 0)])), (uv.2.2.2.2.2.2.2.2.2.2.2.2.2.2.2.2.2.2.2.1, .inl (uv.2.2.2.2.2.2.2.2.2.2.2.2.2.2.2.2.2.2.2.2, 56, .inr (.inl (fun _ => (0 : Int64)))))]) tv.heap ∧ va_D (va_A [(x, .inr (8, [.null, .null, .null, .null, .null, .null]))] sz) ([(x, .inr (8, [.ref uv.1, .ref uv.2.2.2.2.1, .ref uv.2.2.2.2.2.2.2.2.1, .ref uv.2.2.2.2.2.2.2.2.2.2.2.2.1, .ref uv.2.2.2.2.2.2.2.2.2.2.2.2.2.2.2.1, .ref uv.2.2.2.2.2.2.2.2.2.2.2.2.2.2.2.2.2.2.1])), (uv.1, .inr (1, [.ref uv.2.1])), (uv.2.1, .inr (2, [.ref uv.2.2.1])), (uv.2.2.1, .inl (uv.2.2.2.1, 121, .inl (fun _ => (0 : Int32)))), (uv.2.2.2.2.1, .inr (5, [.ref uv.2.2.2.2.2.1])), (uv.2.2.2.2.2.1, .inr (4, [.ref uv.2.2.2.2.2.2.1, .int (nI 0)])), (uv.2.2.2.2.2.2.1, .inl (uv.2.2.2.2.2.2.2.1, 40, .inr (.inr (.inr (.inr (fun _ => (none : Option Nat))))))), (uv.2.2.2.2.2.2.2.2.1, .inr (6, [.ref uv.2.2.2.2.2.2.2.2.2.1])), (uv.2.2.2.2.2.2.2.2.2.1, .inr (3, [.ref uv.2.2.2.2.2.2.2.2.2.2.1, .int (nI 0)])), (uv.2.2.2.2.2.2.2.2.2.2.1, .inl (uv.2.2.2.2.2.2.2.2.2.2.2.1, 401, .inr (.inl (fun _ => (0 : Int64))))), (uv.2.2.2.2.2.2.2.2.2.2.2.2.1, .inr (4, [.ref uv.2.2.2.2.2.2.2.2.2.2.2.2.2.1, .int (nI 0)])), (uv.2.2.2.2.2.2.2.2.2.2.2.2.2.1, .inl (uv.2.2.2.2.2.2.2.2.2.2.2.2.2.2.1, 40, .inr (.inr (.inr (.inr (fun _ => (none : Option Nat))))))), (uv.2.2.2.2.2.2.2.2.2.2.2.2.2.2.2.1, .inr (4, [.ref uv.2.2.2.2.2.2.2.2.2.2.2.2.2.2.2.2.1, .int (nI 0)])), (uv.2.2.2.2.2.2.2.2.2.2.2.2.2.2.2.2.1, .inl (uv.2.2.2.2.2.2.2.2.2.2.2.2.2.2.2.2.2.1, 40, .inr (.inr (.inr (.inr (fun _ => (none : Option Nat))))))), (uv.2.2.2.2.2.2.2.2.2.2.2.2.2.2.2.2.2.2.1, .inr (3, [.ref uv.2.2.2.2.2.2.2.2.2.2.2.2.2.2.2.2.2.2.2.1, .int (nI 0)])), (uv.2.2.2.2.2.2.2.2.2.2.2.2.2.2.2.2.2.2.2.1, .inl (uv.2.2.2.2.2.2.2.2.2.2.2.2.2.2.2.2.2.2.2.2, 56, .inr (.inl (fun _ => (0 : Int64)))))]) ∧ va_K D vwCl [(uv.2.2.2.1, .int), (uv.2.2.2.2.2.2.2.1, .object "FuzzyFens$Entry"), (uv.2.2.2.2.2.2.2.2.2.2.2.1, .long), (uv.2.2.2.2.2.2.2.2.2.2.2.2.2.2.1, .object "FuzzyFens$Entry"), (uv.2.2.2.2.2.2.2.2.2.2.2.2.2.2.2.2.2.1, .object "FuzzyFens$Entry"), (uv.2.2.2.2.2.2.2.2.2.2.2.2.2.2.2.2.2.2.2.2, .long)] tv) (va_A [(x, .inr (8, [.null, .null, .null, .null, .null, .null]))] sz)) 15 712 (va_A [(x, .inr (8, [.null, .null, .null, .null, .null, .null]))] sz) := by
  refine Met.ofW (cc := cX9_init) (maxL := 1) (ret := none) (by decide) rfl ?_
  intro pM eM s mi9 argsM belowM methM cM sM B hml hv
  obtain ⟨rfl, hsz, hR0, hP, hK, hNw, hZ, hXt⟩ := hv
  have hx := B.exec
  have hb := B.bytes
  have hr := B.returns
  have hts := atoms_spec (ws := wsX9_init) B.pre
  have hown : s.vm.findClass RX9 = some mi9.cls := findClass_of_methodNamed B.named
  have hlocks := B.notSynchronized
  have hin : methM.name = "<init>" := (name_of_methodNamed B.named B.method).1
  subst hsz
  have hna := q_na (RW := [(x, .inr (8, [.null, .null, .null, .null, .null, .null]))]) (RO := []) hnd rfl rfl hR0
  have hD := q_D (RW := [(x, .inr (8, [.null, .null, .null, .null, .null, .null]))]) (sz := s.heap.size) hnd rfl
  have hnR : (([] : va_W).map (·.1)).Nodup := by rw [show ([] : va_W).map (·.1) = [] from rfl]; exact (List.nodup_append.mp hnd).2.1
  have hA : ∀ q : Nat, s.heap.size ≤ q → va_A [(x, .inr (8, [.null, .null, .null, .null, .null, .null]))] s.heap.size q := fun q h => Or.inr h
  generalize hAe : va_A [(x, .inr (8, [.null, .null, .null, .null, .null, .null]))] s.heap.size = A at hna hD hA hZ ⊢
  have hS : va_S A s.heap s.heap [] := va_S.rf
  have hR := hR0
  have hP : va_P D vwCl [(x, .inr (8, [.null, .null, .null, .null, .null, .null]))] s.heap := hP
  have hl := lv_entry ([.ref x]) (n := 1) (Nat.le_of_ble_eq_true rfl)
  rw [lg_entry_eq]
  generalize (lg_sl ([.ref x]) ++ List.replicate (1 - (lg_sl ([.ref x])).length) Slot.unset).toArray = ls at hl ⊢
  have hl : lv_has ls 1 [(0, .ref x)] := hl
  refine lv_aload_n hx hb dX9_init_0 rfl (lv_at hl 0 rfl) ?_
  refine W.objInit hx hb hown (hts (.methodLink RX9 3 objectInit) (List.mem_of_getElem? (i := 1) rfl)) (hts (.instanceMethod objectInit) (List.mem_of_getElem? (i := 2) rfl)) (hts (.code objectInit ⟨#[0xb1]⟩ 1 none) (List.mem_of_getElem? (i := 3) rfl)) rfl (by rw [hml]; exact hl.1) rfl dX9_init_1 (Nat.le_of_ble_eq_true rfl) (Nat.le_of_ble_eq_true rfl) ?_
  refine W.eq (g2 := F0 mi9 4 ls []) rfl ?_
  refine lv_aload_n hx hb dX9_init_4 rfl (lv_at hl 0 rfl) ?_
  refine va_new (D := D) (ci := 1) (fs := [.null]) (C := RX1) (T := TX1) (N := 1) hx hb hts iX9_init_X1 tyX1 tyX1_ok hown (hts (.classLink RX9 9 RX1) (List.mem_of_getElem? (i := 4) rfl)) (hts (.instantiable RX1 1) (List.mem_of_getElem? (i := 5) rfl)) (hts (.initialized RX1) (List.mem_of_getElem? (i := 6) rfl)) hK hP hD hS hA rfl (fun j9 h9 => by rcases (show j9 = 0 by omega) with rfl <;> rfl) (Nat.le_of_ble_eq_true rfl) (Nat.le_of_ble_eq_true rfl) dX9_init_5 (fun q_1 H_2 hP hD hS => ?_)
  have hP : va_P D vwCl [(x, .inr (8, [.null, .null, .null, .null, .null, .null])), (q_1, .inr (1, [.null]))] H_2 := hP
  have hD : va_D A [(x, .inr (8, [.null, .null, .null, .null, .null, .null])), (q_1, .inr (1, [.null]))] := hD
  have hR := q_ro hR0 hna hS
  refine lv_dup hx hb dX9_init_8 rfl ?_
  have hF := va_free (wc := [(q_1, .inr (1, [.null]))]) hD hS hA [1] rfl
  refine va_callv (va_runIN (host := "FuzzyFens") (own := RX9) (As := []) (rest := [.ref q_1, .ref x]) ⟨hx, hb, hml, hown, hts⟩ (c_X1_init (l := l) (D := D) (g := q_1) (sz := H_2.size) (hnd := (q_nds (q_ndg (l1 := [x, q_1]) (l2 := []) hD hnR hna rfl rfl) [1] rfl rfl)) ) ⟨va_cnB 0 hts gX9_init_X1_init_n11 rfl rfl rfl (hNw.2 ("FuzzyFens", 11, ⟨"FuzzyFens$Gauge", "<init>", "()V"⟩) (List.mem_of_getElem? (i := 0) rfl)) (hts (.initialized RX1) (List.mem_of_getElem? (i := 6) rfl)) (by decide +kernel) ⟨Nat.le_of_ble_eq_true rfl, Nat.le_of_ble_eq_true rfl⟩, rfl, (hts (.instanceMethod yX1_init) (List.mem_of_getElem? (i := 25) rfl))⟩ ⟨qW_blind, (qW_of (q_Pof (fun _ h => absurd h List.not_mem_nil)) (hP.sub (ws' := [(q_1, .inr (1, [.null]))]) [1] rfl) (hK.sub (tys' := []) [] rfl) hNw)⟩ rfl rfl hl.1 rfl (lv_room (Nat.le_of_ble_eq_true rfl)) dX9_init_9 ⟨Nat.le_of_ble_eq_true rfl, Nat.le_of_ble_eq_true rfl⟩) hS (fun q _ h => hF q h) hF (fun u_7 t_6 H_4 locs_5 ht hvm hr_3 hB hz1 hk1 hS => ?_)
  obtain ⟨gr_8, c9_9, cG_10⟩ := u_7
  dsimp only at hr_3 hB
  obtain ⟨hB1, hB2, hB3⟩ := hB
  replace hB1 : va_P D vwCl ([(q_1, .inr (1, [.ref gr_8]))] ++ [(gr_8, .inr (2, [.ref c9_9])), (c9_9, .inl (cG_10, 121, .inl (fun _ => (0 : Int32))))]) H_4 := by rw [← ht]; exact hB1
  obtain ⟨hP, hD⟩ := q_joinN (wc := [(q_1, .inr (1, [.null]))]) (w1 := [(q_1, .inr (1, [.ref gr_8]))]) (wn := [(gr_8, .inr (2, [.ref c9_9])), (c9_9, .inl (cG_10, 121, .inl (fun _ => (0 : Int32))))]) (ws' := [(x, .inr (8, [.null, .null, .null, .null, .null, .null])), (q_1, .inr (1, [.ref gr_8]))]) [1] hP hD rfl rfl hk1 hF hB1 hB2 rfl
  have hK : va_K D vwCl [(cG_10, .int)] s := hK.app (va_K.moved hvm.symm hB3)
  have hP : va_P D vwCl [(x, .inr (8, [.null, .null, .null, .null, .null, .null])), (q_1, .inr (1, [.ref gr_8])), (gr_8, .inr (2, [.ref c9_9])), (c9_9, .inl (cG_10, 121, .inl (fun _ => (0 : Int32))))] H_4 := hP
  have hD : va_D A [(x, .inr (8, [.null, .null, .null, .null, .null, .null])), (q_1, .inr (1, [.ref gr_8])), (gr_8, .inr (2, [.ref c9_9])), (c9_9, .inl (cG_10, 121, .inl (fun _ => (0 : Int32))))] := hD
  have hR := q_ro hR0 hna hS
  refine va_putF (D := D) (ci := 8) (v := .ref q_1) (ty := .object "FuzzyFens$Gauge") (C := RX9) (T := TX9) (N := 6) hx hb hts iX9_init_X9 tyX9 tyX9_ok nmX9 hown hK hP hD hS 0 rfl rfl 0 (by decide) (hts (.fieldLink RX9 12 "FuzzyFens" "gauge" "LFuzzyFens$Gauge;") (List.mem_of_getElem? (i := 7) rfl)) (fun _ h9 => h9) rfl hin rfl (by decide +kernel) rfl rfl (Nat.le_of_ble_eq_true rfl) dX9_init_12 (fun H_11 locs_12 hP hD hS => ?_)
  have hP : va_P D vwCl [(x, .inr (8, [.ref q_1, .null, .null, .null, .null, .null])), (q_1, .inr (1, [.ref gr_8])), (gr_8, .inr (2, [.ref c9_9])), (c9_9, .inl (cG_10, 121, .inl (fun _ => (0 : Int32))))] H_11 := hP
  have hD : va_D A [(x, .inr (8, [.ref q_1, .null, .null, .null, .null, .null])), (q_1, .inr (1, [.ref gr_8])), (gr_8, .inr (2, [.ref c9_9])), (c9_9, .inl (cG_10, 121, .inl (fun _ => (0 : Int32))))] := hD
  have hR := q_ro hR0 hna hS
  refine lv_aload_n hx hb dX9_init_15 rfl (lv_at hl 0 rfl) ?_
  refine va_new (D := D) (ci := 5) (fs := [.null]) (C := RX6) (T := TX6) (N := 1) hx hb hts iX9_init_X6 tyX6 tyX6_ok hown (hts (.classLink RX9 16 RX6) (List.mem_of_getElem? (i := 8) rfl)) (hts (.instantiable RX6 1) (List.mem_of_getElem? (i := 9) rfl)) (hts (.initialized RX6) (List.mem_of_getElem? (i := 10) rfl)) hK hP hD hS hA rfl (fun j9 h9 => by rcases (show j9 = 0 by omega) with rfl <;> rfl) (Nat.le_of_ble_eq_true rfl) (Nat.le_of_ble_eq_true rfl) dX9_init_16 (fun q_13 H_14 hP hD hS => ?_)
  have hP : va_P D vwCl [(x, .inr (8, [.ref q_1, .null, .null, .null, .null, .null])), (q_1, .inr (1, [.ref gr_8])), (gr_8, .inr (2, [.ref c9_9])), (c9_9, .inl (cG_10, 121, .inl (fun _ => (0 : Int32)))), (q_13, .inr (5, [.null]))] H_14 := hP
  have hD : va_D A [(x, .inr (8, [.ref q_1, .null, .null, .null, .null, .null])), (q_1, .inr (1, [.ref gr_8])), (gr_8, .inr (2, [.ref c9_9])), (c9_9, .inl (cG_10, 121, .inl (fun _ => (0 : Int32)))), (q_13, .inr (5, [.null]))] := hD
  have hR := q_ro hR0 hna hS
  refine lv_dup hx hb dX9_init_19 rfl ?_
  have hF := va_free (wc := [(q_13, .inr (5, [.null]))]) hD hS hA [4] rfl
  refine va_callv (va_runIN (host := "FuzzyFens") (own := RX9) (As := []) (rest := [.ref q_13, .ref x]) ⟨hx, hb, hml, hown, hts⟩ (c_X6_init (l := l) (D := D) (tr := q_13) (sz := H_14.size) (hnd := (q_nds (q_ndg (l1 := [x, q_1, gr_8, c9_9, q_13]) (l2 := []) hD hnR hna rfl rfl) [4] rfl rfl)) ) ⟨va_cnB 0 hts gX9_init_X6_init_n18 rfl rfl rfl (hNw.2 ("FuzzyFens", 18, ⟨"FuzzyFens$Tree", "<init>", "()V"⟩) (List.mem_of_getElem? (i := 2) rfl)) (hts (.initialized RX6) (List.mem_of_getElem? (i := 10) rfl)) (by decide +kernel) ⟨Nat.le_of_ble_eq_true rfl, Nat.le_of_ble_eq_true rfl⟩, rfl, (hts (.instanceMethod yX6_init) (List.mem_of_getElem? (i := 37) rfl))⟩ ⟨qWx_blind, (qWx_of (q_Pof (fun _ h => absurd h List.not_mem_nil)) (hP.sub (ws' := [(q_13, .inr (5, [.null]))]) [4] rfl) (hK.sub (tys' := []) [] rfl) hNw (qZ_at hZ hS (fun q h => hF q h)) hXt)⟩ rfl rfl hl.1 rfl (lv_room (Nat.le_of_ble_eq_true rfl)) dX9_init_20 ⟨Nat.le_of_ble_eq_true rfl, Nat.le_of_ble_eq_true rfl⟩) hS (fun q _ h => hF q h) hF (fun u_19 t_18 H_16 locs_17 ht hvm hr_15 hB hz1 hk1 hS => ?_)
  obtain ⟨sh_20, ar_21, cS_22⟩ := u_19
  dsimp only at hr_15 hB
  obtain ⟨hB1, hB2, hB3⟩ := hB
  replace hB1 : va_P D vwCl ([(q_13, .inr (5, [.ref sh_20]))] ++ [(sh_20, .inr (4, [.ref ar_21, .int (nI 0)])), (ar_21, .inl (cS_22, 40, .inr (.inr (.inr (.inr (fun _ => (none : Option Nat)))))))]) H_16 := by rw [← ht]; exact hB1
  obtain ⟨hP, hD⟩ := q_joinN (wc := [(q_13, .inr (5, [.null]))]) (w1 := [(q_13, .inr (5, [.ref sh_20]))]) (wn := [(sh_20, .inr (4, [.ref ar_21, .int (nI 0)])), (ar_21, .inl (cS_22, 40, .inr (.inr (.inr (.inr (fun _ => (none : Option Nat)))))))]) (ws' := [(x, .inr (8, [.ref q_1, .null, .null, .null, .null, .null])), (q_1, .inr (1, [.ref gr_8])), (gr_8, .inr (2, [.ref c9_9])), (c9_9, .inl (cG_10, 121, .inl (fun _ => (0 : Int32)))), (q_13, .inr (5, [.ref sh_20]))]) [4] hP hD rfl rfl hk1 hF hB1 hB2 rfl
  have hK : va_K D vwCl [(cG_10, .int), (cS_22, .object "FuzzyFens$Entry")] s := hK.app (va_K.moved hvm.symm hB3)
  have hP : va_P D vwCl [(x, .inr (8, [.ref q_1, .null, .null, .null, .null, .null])), (q_1, .inr (1, [.ref gr_8])), (gr_8, .inr (2, [.ref c9_9])), (c9_9, .inl (cG_10, 121, .inl (fun _ => (0 : Int32)))), (q_13, .inr (5, [.ref sh_20])), (sh_20, .inr (4, [.ref ar_21, .int (nI 0)])), (ar_21, .inl (cS_22, 40, .inr (.inr (.inr (.inr (fun _ => (none : Option Nat)))))))] H_16 := hP
  have hD : va_D A [(x, .inr (8, [.ref q_1, .null, .null, .null, .null, .null])), (q_1, .inr (1, [.ref gr_8])), (gr_8, .inr (2, [.ref c9_9])), (c9_9, .inl (cG_10, 121, .inl (fun _ => (0 : Int32)))), (q_13, .inr (5, [.ref sh_20])), (sh_20, .inr (4, [.ref ar_21, .int (nI 0)])), (ar_21, .inl (cS_22, 40, .inr (.inr (.inr (.inr (fun _ => (none : Option Nat)))))))] := hD
  have hR := q_ro hR0 hna hS
  refine va_putF (D := D) (ci := 8) (v := .ref q_13) (ty := .object "FuzzyFens$Tree") (C := RX9) (T := TX9) (N := 6) hx hb hts iX9_init_X9 tyX9 tyX9_ok nmX9 hown hK hP hD hS 0 rfl rfl 1 (by decide) (hts (.fieldLink RX9 19 "FuzzyFens" "tree" "LFuzzyFens$Tree;") (List.mem_of_getElem? (i := 11) rfl)) (fun _ h9 => h9) rfl hin rfl (by decide +kernel) rfl rfl (Nat.le_of_ble_eq_true rfl) dX9_init_23 (fun H_23 locs_24 hP hD hS => ?_)
  have hP : va_P D vwCl [(x, .inr (8, [.ref q_1, .ref q_13, .null, .null, .null, .null])), (q_1, .inr (1, [.ref gr_8])), (gr_8, .inr (2, [.ref c9_9])), (c9_9, .inl (cG_10, 121, .inl (fun _ => (0 : Int32)))), (q_13, .inr (5, [.ref sh_20])), (sh_20, .inr (4, [.ref ar_21, .int (nI 0)])), (ar_21, .inl (cS_22, 40, .inr (.inr (.inr (.inr (fun _ => (none : Option Nat)))))))] H_23 := hP
  have hD : va_D A [(x, .inr (8, [.ref q_1, .ref q_13, .null, .null, .null, .null])), (q_1, .inr (1, [.ref gr_8])), (gr_8, .inr (2, [.ref c9_9])), (c9_9, .inl (cG_10, 121, .inl (fun _ => (0 : Int32)))), (q_13, .inr (5, [.ref sh_20])), (sh_20, .inr (4, [.ref ar_21, .int (nI 0)])), (ar_21, .inl (cS_22, 40, .inr (.inr (.inr (.inr (fun _ => (none : Option Nat)))))))] := hD
  have hR := q_ro hR0 hna hS
  refine lv_aload_n hx hb dX9_init_26 rfl (lv_at hl 0 rfl) ?_
  refine va_new (D := D) (ci := 6) (fs := [.null]) (C := RX7) (T := TX7) (N := 1) hx hb hts iX9_init_X7 tyX7 tyX7_ok hown (hts (.classLink RX9 23 RX7) (List.mem_of_getElem? (i := 12) rfl)) (hts (.instantiable RX7 1) (List.mem_of_getElem? (i := 13) rfl)) (hts (.initialized RX7) (List.mem_of_getElem? (i := 14) rfl)) hK hP hD hS hA rfl (fun j9 h9 => by rcases (show j9 = 0 by omega) with rfl <;> rfl) (Nat.le_of_ble_eq_true rfl) (Nat.le_of_ble_eq_true rfl) dX9_init_27 (fun q_25 H_26 hP hD hS => ?_)
  have hP : va_P D vwCl [(x, .inr (8, [.ref q_1, .ref q_13, .null, .null, .null, .null])), (q_1, .inr (1, [.ref gr_8])), (gr_8, .inr (2, [.ref c9_9])), (c9_9, .inl (cG_10, 121, .inl (fun _ => (0 : Int32)))), (q_13, .inr (5, [.ref sh_20])), (sh_20, .inr (4, [.ref ar_21, .int (nI 0)])), (ar_21, .inl (cS_22, 40, .inr (.inr (.inr (.inr (fun _ => (none : Option Nat))))))), (q_25, .inr (6, [.null]))] H_26 := hP
  have hD : va_D A [(x, .inr (8, [.ref q_1, .ref q_13, .null, .null, .null, .null])), (q_1, .inr (1, [.ref gr_8])), (gr_8, .inr (2, [.ref c9_9])), (c9_9, .inl (cG_10, 121, .inl (fun _ => (0 : Int32)))), (q_13, .inr (5, [.ref sh_20])), (sh_20, .inr (4, [.ref ar_21, .int (nI 0)])), (ar_21, .inl (cS_22, 40, .inr (.inr (.inr (.inr (fun _ => (none : Option Nat))))))), (q_25, .inr (6, [.null]))] := hD
  have hR := q_ro hR0 hna hS
  refine lv_dup hx hb dX9_init_30 rfl ?_
  have hF := va_free (wc := [(q_25, .inr (6, [.null]))]) hD hS hA [7] rfl
  refine va_callv (va_runIN (host := "FuzzyFens") (own := RX9) (As := []) (rest := [.ref q_25, .ref x]) ⟨hx, hb, hml, hown, hts⟩ (c_X7_init (l := l) (D := D) (t := q_25) (sz := H_26.size) (hnd := (q_nds (q_ndg (l1 := [x, q_1, gr_8, c9_9, q_13, sh_20, ar_21, q_25]) (l2 := []) hD hnR hna rfl rfl) [7] rfl rfl)) ) ⟨va_cnB 0 hts gX9_init_X7_init_n25 rfl rfl rfl (hNw.2 ("FuzzyFens", 25, ⟨"FuzzyFens$Trie", "<init>", "()V"⟩) (List.mem_of_getElem? (i := 4) rfl)) (hts (.initialized RX7) (List.mem_of_getElem? (i := 14) rfl)) (by decide +kernel) ⟨Nat.le_of_ble_eq_true rfl, Nat.le_of_ble_eq_true rfl⟩, rfl, (hts (.instanceMethod yX7_init) (List.mem_of_getElem? (i := 47) rfl))⟩ ⟨qW_blind, (qW_of (q_Pof (fun _ h => absurd h List.not_mem_nil)) (hP.sub (ws' := [(q_25, .inr (6, [.null]))]) [7] rfl) (hK.sub (tys' := []) [] rfl) hNw)⟩ rfl rfl hl.1 rfl (lv_room (Nat.le_of_ble_eq_true rfl)) dX9_init_31 ⟨Nat.le_of_ble_eq_true rfl, Nat.le_of_ble_eq_true rfl⟩) hS (fun q _ h => hF q h) hF (fun u_31 t_30 H_28 locs_29 ht hvm hr_27 hB hz1 hk1 hS => ?_)
  obtain ⟨ns_32, na_33, cJ_34⟩ := u_31
  dsimp only at hr_27 hB
  obtain ⟨hB1, hB2, hB3⟩ := hB
  replace hB1 : va_P D vwCl ([(q_25, .inr (6, [.ref ns_32]))] ++ [(ns_32, .inr (3, [.ref na_33, .int (nI 0)])), (na_33, .inl (cJ_34, 401, .inr (.inl (fun _ => (0 : Int64)))))]) H_28 := by rw [← ht]; exact hB1
  obtain ⟨hP, hD⟩ := q_joinN (wc := [(q_25, .inr (6, [.null]))]) (w1 := [(q_25, .inr (6, [.ref ns_32]))]) (wn := [(ns_32, .inr (3, [.ref na_33, .int (nI 0)])), (na_33, .inl (cJ_34, 401, .inr (.inl (fun _ => (0 : Int64)))))]) (ws' := [(x, .inr (8, [.ref q_1, .ref q_13, .null, .null, .null, .null])), (q_1, .inr (1, [.ref gr_8])), (gr_8, .inr (2, [.ref c9_9])), (c9_9, .inl (cG_10, 121, .inl (fun _ => (0 : Int32)))), (q_13, .inr (5, [.ref sh_20])), (sh_20, .inr (4, [.ref ar_21, .int (nI 0)])), (ar_21, .inl (cS_22, 40, .inr (.inr (.inr (.inr (fun _ => (none : Option Nat))))))), (q_25, .inr (6, [.ref ns_32]))]) [7] hP hD rfl rfl hk1 hF hB1 hB2 rfl
  have hK : va_K D vwCl [(cG_10, .int), (cS_22, .object "FuzzyFens$Entry"), (cJ_34, .long)] s := hK.app (va_K.moved hvm.symm hB3)
  have hP : va_P D vwCl [(x, .inr (8, [.ref q_1, .ref q_13, .null, .null, .null, .null])), (q_1, .inr (1, [.ref gr_8])), (gr_8, .inr (2, [.ref c9_9])), (c9_9, .inl (cG_10, 121, .inl (fun _ => (0 : Int32)))), (q_13, .inr (5, [.ref sh_20])), (sh_20, .inr (4, [.ref ar_21, .int (nI 0)])), (ar_21, .inl (cS_22, 40, .inr (.inr (.inr (.inr (fun _ => (none : Option Nat))))))), (q_25, .inr (6, [.ref ns_32])), (ns_32, .inr (3, [.ref na_33, .int (nI 0)])), (na_33, .inl (cJ_34, 401, .inr (.inl (fun _ => (0 : Int64)))))] H_28 := hP
  have hD : va_D A [(x, .inr (8, [.ref q_1, .ref q_13, .null, .null, .null, .null])), (q_1, .inr (1, [.ref gr_8])), (gr_8, .inr (2, [.ref c9_9])), (c9_9, .inl (cG_10, 121, .inl (fun _ => (0 : Int32)))), (q_13, .inr (5, [.ref sh_20])), (sh_20, .inr (4, [.ref ar_21, .int (nI 0)])), (ar_21, .inl (cS_22, 40, .inr (.inr (.inr (.inr (fun _ => (none : Option Nat))))))), (q_25, .inr (6, [.ref ns_32])), (ns_32, .inr (3, [.ref na_33, .int (nI 0)])), (na_33, .inl (cJ_34, 401, .inr (.inl (fun _ => (0 : Int64)))))] := hD
  have hR := q_ro hR0 hna hS
  refine va_putF (D := D) (ci := 8) (v := .ref q_25) (ty := .object "FuzzyFens$Trie") (C := RX9) (T := TX9) (N := 6) hx hb hts iX9_init_X9 tyX9 tyX9_ok nmX9 hown hK hP hD hS 0 rfl rfl 2 (by decide) (hts (.fieldLink RX9 26 "FuzzyFens" "trie" "LFuzzyFens$Trie;") (List.mem_of_getElem? (i := 15) rfl)) (fun _ h9 => h9) rfl hin rfl (by decide +kernel) rfl rfl (Nat.le_of_ble_eq_true rfl) dX9_init_34 (fun H_35 locs_36 hP hD hS => ?_)
  have hP : va_P D vwCl [(x, .inr (8, [.ref q_1, .ref q_13, .ref q_25, .null, .null, .null])), (q_1, .inr (1, [.ref gr_8])), (gr_8, .inr (2, [.ref c9_9])), (c9_9, .inl (cG_10, 121, .inl (fun _ => (0 : Int32)))), (q_13, .inr (5, [.ref sh_20])), (sh_20, .inr (4, [.ref ar_21, .int (nI 0)])), (ar_21, .inl (cS_22, 40, .inr (.inr (.inr (.inr (fun _ => (none : Option Nat))))))), (q_25, .inr (6, [.ref ns_32])), (ns_32, .inr (3, [.ref na_33, .int (nI 0)])), (na_33, .inl (cJ_34, 401, .inr (.inl (fun _ => (0 : Int64)))))] H_35 := hP
  have hD : va_D A [(x, .inr (8, [.ref q_1, .ref q_13, .ref q_25, .null, .null, .null])), (q_1, .inr (1, [.ref gr_8])), (gr_8, .inr (2, [.ref c9_9])), (c9_9, .inl (cG_10, 121, .inl (fun _ => (0 : Int32)))), (q_13, .inr (5, [.ref sh_20])), (sh_20, .inr (4, [.ref ar_21, .int (nI 0)])), (ar_21, .inl (cS_22, 40, .inr (.inr (.inr (.inr (fun _ => (none : Option Nat))))))), (q_25, .inr (6, [.ref ns_32])), (ns_32, .inr (3, [.ref na_33, .int (nI 0)])), (na_33, .inl (cJ_34, 401, .inr (.inl (fun _ => (0 : Int64)))))] := hD
  have hR := q_ro hR0 hna hS
  refine lv_aload_n hx hb dX9_init_37 rfl (lv_at hl 0 rfl) ?_
  refine va_new (D := D) (ci := 4) (fs := [.null, .int 0]) (C := RX5) (T := TX5) (N := 2) hx hb hts iX9_init_X5 tyX5 tyX5_ok hown (hts (.classLink RX9 30 RX5) (List.mem_of_getElem? (i := 16) rfl)) (hts (.instantiable RX5 2) (List.mem_of_getElem? (i := 17) rfl)) (hts (.initialized RX5) (List.mem_of_getElem? (i := 18) rfl)) hK hP hD hS hA rfl (fun j9 h9 => by rcases (show j9 = 0 ∨ j9 = 1 by omega) with rfl | rfl <;> rfl) (Nat.le_of_ble_eq_true rfl) (Nat.le_of_ble_eq_true rfl) dX9_init_38 (fun q_37 H_38 hP hD hS => ?_)
  have hP : va_P D vwCl [(x, .inr (8, [.ref q_1, .ref q_13, .ref q_25, .null, .null, .null])), (q_1, .inr (1, [.ref gr_8])), (gr_8, .inr (2, [.ref c9_9])), (c9_9, .inl (cG_10, 121, .inl (fun _ => (0 : Int32)))), (q_13, .inr (5, [.ref sh_20])), (sh_20, .inr (4, [.ref ar_21, .int (nI 0)])), (ar_21, .inl (cS_22, 40, .inr (.inr (.inr (.inr (fun _ => (none : Option Nat))))))), (q_25, .inr (6, [.ref ns_32])), (ns_32, .inr (3, [.ref na_33, .int (nI 0)])), (na_33, .inl (cJ_34, 401, .inr (.inl (fun _ => (0 : Int64))))), (q_37, .inr (4, [.null, .int 0]))] H_38 := hP
  have hD : va_D A [(x, .inr (8, [.ref q_1, .ref q_13, .ref q_25, .null, .null, .null])), (q_1, .inr (1, [.ref gr_8])), (gr_8, .inr (2, [.ref c9_9])), (c9_9, .inl (cG_10, 121, .inl (fun _ => (0 : Int32)))), (q_13, .inr (5, [.ref sh_20])), (sh_20, .inr (4, [.ref ar_21, .int (nI 0)])), (ar_21, .inl (cS_22, 40, .inr (.inr (.inr (.inr (fun _ => (none : Option Nat))))))), (q_25, .inr (6, [.ref ns_32])), (ns_32, .inr (3, [.ref na_33, .int (nI 0)])), (na_33, .inl (cJ_34, 401, .inr (.inl (fun _ => (0 : Int64))))), (q_37, .inr (4, [.null, .int 0]))] := hD
  have hR := q_ro hR0 hna hS
  refine lv_dup hx hb dX9_init_41 rfl ?_
  have hF := va_free (wc := [(q_37, .inr (4, [.null, .int 0]))]) hD hS hA [10] rfl
  refine va_callv (va_runIN (host := "FuzzyFens") (own := RX9) (As := []) (rest := [.ref q_37, .ref x]) ⟨hx, hb, hml, hown, hts⟩ (c_X5_init (l := l) (D := D) (sh := q_37) (sz := H_38.size) (hnd := (q_nds (q_ndg (l1 := [x, q_1, gr_8, c9_9, q_13, sh_20, ar_21, q_25, ns_32, na_33, q_37]) (l2 := []) hD hnR hna rfl rfl) [10] rfl rfl)) ) ⟨va_cnB 0 hts gX9_init_X5_init_n32 rfl rfl rfl (hNw.2 ("FuzzyFens", 32, ⟨"FuzzyFens$Shelf", "<init>", "()V"⟩) (List.mem_of_getElem? (i := 5) rfl)) (hts (.initialized RX5) (List.mem_of_getElem? (i := 18) rfl)) (by decide +kernel) ⟨Nat.le_of_ble_eq_true rfl, Nat.le_of_ble_eq_true rfl⟩, rfl, (hts (.instanceMethod yX5_init) (List.mem_of_getElem? (i := 42) rfl))⟩ ⟨qWx_blind, (qWx_of (q_Pof (fun _ h => absurd h List.not_mem_nil)) (hP.sub (ws' := [(q_37, .inr (4, [.null, .int 0]))]) [10] rfl) (hK.sub (tys' := []) [] rfl) hNw (qZ_at hZ hS (fun q h => hF q h)) hXt)⟩ rfl rfl hl.1 rfl (lv_room (Nat.le_of_ble_eq_true rfl)) dX9_init_42 ⟨Nat.le_of_ble_eq_true rfl, Nat.le_of_ble_eq_true rfl⟩) hS (fun q _ h => hF q h) hF (fun u_43 t_42 H_40 locs_41 ht hvm hr_39 hB hz1 hk1 hS => ?_)
  obtain ⟨ar_44, cS_45⟩ := u_43
  dsimp only at hr_39 hB
  obtain ⟨hB1, hB2, hB3⟩ := hB
  replace hB1 : va_P D vwCl ([(q_37, .inr (4, [.ref ar_44, .int (nI 0)]))] ++ [(ar_44, .inl (cS_45, 40, .inr (.inr (.inr (.inr (fun _ => (none : Option Nat)))))))]) H_40 := by rw [← ht]; exact hB1
  obtain ⟨hP, hD⟩ := q_joinN (wc := [(q_37, .inr (4, [.null, .int 0]))]) (w1 := [(q_37, .inr (4, [.ref ar_44, .int (nI 0)]))]) (wn := [(ar_44, .inl (cS_45, 40, .inr (.inr (.inr (.inr (fun _ => (none : Option Nat)))))))]) (ws' := [(x, .inr (8, [.ref q_1, .ref q_13, .ref q_25, .null, .null, .null])), (q_1, .inr (1, [.ref gr_8])), (gr_8, .inr (2, [.ref c9_9])), (c9_9, .inl (cG_10, 121, .inl (fun _ => (0 : Int32)))), (q_13, .inr (5, [.ref sh_20])), (sh_20, .inr (4, [.ref ar_21, .int (nI 0)])), (ar_21, .inl (cS_22, 40, .inr (.inr (.inr (.inr (fun _ => (none : Option Nat))))))), (q_25, .inr (6, [.ref ns_32])), (ns_32, .inr (3, [.ref na_33, .int (nI 0)])), (na_33, .inl (cJ_34, 401, .inr (.inl (fun _ => (0 : Int64))))), (q_37, .inr (4, [.ref ar_44, .int (nI 0)]))]) [10] hP hD rfl rfl hk1 hF hB1 hB2 rfl
  have hK : va_K D vwCl [(cG_10, .int), (cS_22, .object "FuzzyFens$Entry"), (cJ_34, .long), (cS_45, .object "FuzzyFens$Entry")] s := hK.app (va_K.moved hvm.symm hB3)
  have hP : va_P D vwCl [(x, .inr (8, [.ref q_1, .ref q_13, .ref q_25, .null, .null, .null])), (q_1, .inr (1, [.ref gr_8])), (gr_8, .inr (2, [.ref c9_9])), (c9_9, .inl (cG_10, 121, .inl (fun _ => (0 : Int32)))), (q_13, .inr (5, [.ref sh_20])), (sh_20, .inr (4, [.ref ar_21, .int (nI 0)])), (ar_21, .inl (cS_22, 40, .inr (.inr (.inr (.inr (fun _ => (none : Option Nat))))))), (q_25, .inr (6, [.ref ns_32])), (ns_32, .inr (3, [.ref na_33, .int (nI 0)])), (na_33, .inl (cJ_34, 401, .inr (.inl (fun _ => (0 : Int64))))), (q_37, .inr (4, [.ref ar_44, .int (nI 0)])), (ar_44, .inl (cS_45, 40, .inr (.inr (.inr (.inr (fun _ => (none : Option Nat)))))))] H_40 := hP
  have hD : va_D A [(x, .inr (8, [.ref q_1, .ref q_13, .ref q_25, .null, .null, .null])), (q_1, .inr (1, [.ref gr_8])), (gr_8, .inr (2, [.ref c9_9])), (c9_9, .inl (cG_10, 121, .inl (fun _ => (0 : Int32)))), (q_13, .inr (5, [.ref sh_20])), (sh_20, .inr (4, [.ref ar_21, .int (nI 0)])), (ar_21, .inl (cS_22, 40, .inr (.inr (.inr (.inr (fun _ => (none : Option Nat))))))), (q_25, .inr (6, [.ref ns_32])), (ns_32, .inr (3, [.ref na_33, .int (nI 0)])), (na_33, .inl (cJ_34, 401, .inr (.inl (fun _ => (0 : Int64))))), (q_37, .inr (4, [.ref ar_44, .int (nI 0)])), (ar_44, .inl (cS_45, 40, .inr (.inr (.inr (.inr (fun _ => (none : Option Nat)))))))] := hD
  have hR := q_ro hR0 hna hS
  refine va_putF (D := D) (ci := 8) (v := .ref q_37) (ty := .object "FuzzyFens$Shelf") (C := RX9) (T := TX9) (N := 6) hx hb hts iX9_init_X9 tyX9 tyX9_ok nmX9 hown hK hP hD hS 0 rfl rfl 3 (by decide) (hts (.fieldLink RX9 33 "FuzzyFens" "knownWords" "LFuzzyFens$Shelf;") (List.mem_of_getElem? (i := 19) rfl)) (fun _ h9 => h9) rfl hin rfl (by decide +kernel) rfl rfl (Nat.le_of_ble_eq_true rfl) dX9_init_45 (fun H_46 locs_47 hP hD hS => ?_)
  have hP : va_P D vwCl [(x, .inr (8, [.ref q_1, .ref q_13, .ref q_25, .ref q_37, .null, .null])), (q_1, .inr (1, [.ref gr_8])), (gr_8, .inr (2, [.ref c9_9])), (c9_9, .inl (cG_10, 121, .inl (fun _ => (0 : Int32)))), (q_13, .inr (5, [.ref sh_20])), (sh_20, .inr (4, [.ref ar_21, .int (nI 0)])), (ar_21, .inl (cS_22, 40, .inr (.inr (.inr (.inr (fun _ => (none : Option Nat))))))), (q_25, .inr (6, [.ref ns_32])), (ns_32, .inr (3, [.ref na_33, .int (nI 0)])), (na_33, .inl (cJ_34, 401, .inr (.inl (fun _ => (0 : Int64))))), (q_37, .inr (4, [.ref ar_44, .int (nI 0)])), (ar_44, .inl (cS_45, 40, .inr (.inr (.inr (.inr (fun _ => (none : Option Nat)))))))] H_46 := hP
  have hD : va_D A [(x, .inr (8, [.ref q_1, .ref q_13, .ref q_25, .ref q_37, .null, .null])), (q_1, .inr (1, [.ref gr_8])), (gr_8, .inr (2, [.ref c9_9])), (c9_9, .inl (cG_10, 121, .inl (fun _ => (0 : Int32)))), (q_13, .inr (5, [.ref sh_20])), (sh_20, .inr (4, [.ref ar_21, .int (nI 0)])), (ar_21, .inl (cS_22, 40, .inr (.inr (.inr (.inr (fun _ => (none : Option Nat))))))), (q_25, .inr (6, [.ref ns_32])), (ns_32, .inr (3, [.ref na_33, .int (nI 0)])), (na_33, .inl (cJ_34, 401, .inr (.inl (fun _ => (0 : Int64))))), (q_37, .inr (4, [.ref ar_44, .int (nI 0)])), (ar_44, .inl (cS_45, 40, .inr (.inr (.inr (.inr (fun _ => (none : Option Nat)))))))] := hD
  have hR := q_ro hR0 hna hS
  refine lv_aload_n hx hb dX9_init_48 rfl (lv_at hl 0 rfl) ?_
  refine va_new (D := D) (ci := 4) (fs := [.null, .int 0]) (C := RX5) (T := TX5) (N := 2) hx hb hts iX9_init_X5 tyX5 tyX5_ok hown (hts (.classLink RX9 30 RX5) (List.mem_of_getElem? (i := 16) rfl)) (hts (.instantiable RX5 2) (List.mem_of_getElem? (i := 17) rfl)) (hts (.initialized RX5) (List.mem_of_getElem? (i := 18) rfl)) hK hP hD hS hA rfl (fun j9 h9 => by rcases (show j9 = 0 ∨ j9 = 1 by omega) with rfl | rfl <;> rfl) (Nat.le_of_ble_eq_true rfl) (Nat.le_of_ble_eq_true rfl) dX9_init_49 (fun q_48 H_49 hP hD hS => ?_)
  have hP : va_P D vwCl [(x, .inr (8, [.ref q_1, .ref q_13, .ref q_25, .ref q_37, .null, .null])), (q_1, .inr (1, [.ref gr_8])), (gr_8, .inr (2, [.ref c9_9])), (c9_9, .inl (cG_10, 121, .inl (fun _ => (0 : Int32)))), (q_13, .inr (5, [.ref sh_20])), (sh_20, .inr (4, [.ref ar_21, .int (nI 0)])), (ar_21, .inl (cS_22, 40, .inr (.inr (.inr (.inr (fun _ => (none : Option Nat))))))), (q_25, .inr (6, [.ref ns_32])), (ns_32, .inr (3, [.ref na_33, .int (nI 0)])), (na_33, .inl (cJ_34, 401, .inr (.inl (fun _ => (0 : Int64))))), (q_37, .inr (4, [.ref ar_44, .int (nI 0)])), (ar_44, .inl (cS_45, 40, .inr (.inr (.inr (.inr (fun _ => (none : Option Nat))))))), (q_48, .inr (4, [.null, .int 0]))] H_49 := hP
  have hD : va_D A [(x, .inr (8, [.ref q_1, .ref q_13, .ref q_25, .ref q_37, .null, .null])), (q_1, .inr (1, [.ref gr_8])), (gr_8, .inr (2, [.ref c9_9])), (c9_9, .inl (cG_10, 121, .inl (fun _ => (0 : Int32)))), (q_13, .inr (5, [.ref sh_20])), (sh_20, .inr (4, [.ref ar_21, .int (nI 0)])), (ar_21, .inl (cS_22, 40, .inr (.inr (.inr (.inr (fun _ => (none : Option Nat))))))), (q_25, .inr (6, [.ref ns_32])), (ns_32, .inr (3, [.ref na_33, .int (nI 0)])), (na_33, .inl (cJ_34, 401, .inr (.inl (fun _ => (0 : Int64))))), (q_37, .inr (4, [.ref ar_44, .int (nI 0)])), (ar_44, .inl (cS_45, 40, .inr (.inr (.inr (.inr (fun _ => (none : Option Nat))))))), (q_48, .inr (4, [.null, .int 0]))] := hD
  have hR := q_ro hR0 hna hS
  refine lv_dup hx hb dX9_init_52 rfl ?_
  have hF := va_free (wc := [(q_48, .inr (4, [.null, .int 0]))]) hD hS hA [12] rfl
  refine va_callv (va_runIN (host := "FuzzyFens") (own := RX9) (As := []) (rest := [.ref q_48, .ref x]) ⟨hx, hb, hml, hown, hts⟩ (c_X5_init (l := l) (D := D) (sh := q_48) (sz := H_49.size) (hnd := (q_nds (q_ndg (l1 := [x, q_1, gr_8, c9_9, q_13, sh_20, ar_21, q_25, ns_32, na_33, q_37, ar_44, q_48]) (l2 := []) hD hnR hna rfl rfl) [12] rfl rfl)) ) ⟨va_cnB 0 hts gX9_init_X5_init_n32 rfl rfl rfl (hNw.2 ("FuzzyFens", 32, ⟨"FuzzyFens$Shelf", "<init>", "()V"⟩) (List.mem_of_getElem? (i := 5) rfl)) (hts (.initialized RX5) (List.mem_of_getElem? (i := 18) rfl)) (by decide +kernel) ⟨Nat.le_of_ble_eq_true rfl, Nat.le_of_ble_eq_true rfl⟩, rfl, (hts (.instanceMethod yX5_init) (List.mem_of_getElem? (i := 42) rfl))⟩ ⟨qWx_blind, (qWx_of (q_Pof (fun _ h => absurd h List.not_mem_nil)) (hP.sub (ws' := [(q_48, .inr (4, [.null, .int 0]))]) [12] rfl) (hK.sub (tys' := []) [] rfl) hNw (qZ_at hZ hS (fun q h => hF q h)) hXt)⟩ rfl rfl hl.1 rfl (lv_room (Nat.le_of_ble_eq_true rfl)) dX9_init_53 ⟨Nat.le_of_ble_eq_true rfl, Nat.le_of_ble_eq_true rfl⟩) hS (fun q _ h => hF q h) hF (fun u_54 t_53 H_51 locs_52 ht hvm hr_50 hB hz1 hk1 hS => ?_)
  obtain ⟨ar_55, cS_56⟩ := u_54
  dsimp only at hr_50 hB
  obtain ⟨hB1, hB2, hB3⟩ := hB
  replace hB1 : va_P D vwCl ([(q_48, .inr (4, [.ref ar_55, .int (nI 0)]))] ++ [(ar_55, .inl (cS_56, 40, .inr (.inr (.inr (.inr (fun _ => (none : Option Nat)))))))]) H_51 := by rw [← ht]; exact hB1
  obtain ⟨hP, hD⟩ := q_joinN (wc := [(q_48, .inr (4, [.null, .int 0]))]) (w1 := [(q_48, .inr (4, [.ref ar_55, .int (nI 0)]))]) (wn := [(ar_55, .inl (cS_56, 40, .inr (.inr (.inr (.inr (fun _ => (none : Option Nat)))))))]) (ws' := [(x, .inr (8, [.ref q_1, .ref q_13, .ref q_25, .ref q_37, .null, .null])), (q_1, .inr (1, [.ref gr_8])), (gr_8, .inr (2, [.ref c9_9])), (c9_9, .inl (cG_10, 121, .inl (fun _ => (0 : Int32)))), (q_13, .inr (5, [.ref sh_20])), (sh_20, .inr (4, [.ref ar_21, .int (nI 0)])), (ar_21, .inl (cS_22, 40, .inr (.inr (.inr (.inr (fun _ => (none : Option Nat))))))), (q_25, .inr (6, [.ref ns_32])), (ns_32, .inr (3, [.ref na_33, .int (nI 0)])), (na_33, .inl (cJ_34, 401, .inr (.inl (fun _ => (0 : Int64))))), (q_37, .inr (4, [.ref ar_44, .int (nI 0)])), (ar_44, .inl (cS_45, 40, .inr (.inr (.inr (.inr (fun _ => (none : Option Nat))))))), (q_48, .inr (4, [.ref ar_55, .int (nI 0)]))]) [12] hP hD rfl rfl hk1 hF hB1 hB2 rfl
  have hK : va_K D vwCl [(cG_10, .int), (cS_22, .object "FuzzyFens$Entry"), (cJ_34, .long), (cS_45, .object "FuzzyFens$Entry"), (cS_56, .object "FuzzyFens$Entry")] s := hK.app (va_K.moved hvm.symm hB3)
  have hP : va_P D vwCl [(x, .inr (8, [.ref q_1, .ref q_13, .ref q_25, .ref q_37, .null, .null])), (q_1, .inr (1, [.ref gr_8])), (gr_8, .inr (2, [.ref c9_9])), (c9_9, .inl (cG_10, 121, .inl (fun _ => (0 : Int32)))), (q_13, .inr (5, [.ref sh_20])), (sh_20, .inr (4, [.ref ar_21, .int (nI 0)])), (ar_21, .inl (cS_22, 40, .inr (.inr (.inr (.inr (fun _ => (none : Option Nat))))))), (q_25, .inr (6, [.ref ns_32])), (ns_32, .inr (3, [.ref na_33, .int (nI 0)])), (na_33, .inl (cJ_34, 401, .inr (.inl (fun _ => (0 : Int64))))), (q_37, .inr (4, [.ref ar_44, .int (nI 0)])), (ar_44, .inl (cS_45, 40, .inr (.inr (.inr (.inr (fun _ => (none : Option Nat))))))), (q_48, .inr (4, [.ref ar_55, .int (nI 0)])), (ar_55, .inl (cS_56, 40, .inr (.inr (.inr (.inr (fun _ => (none : Option Nat)))))))] H_51 := hP
  have hD : va_D A [(x, .inr (8, [.ref q_1, .ref q_13, .ref q_25, .ref q_37, .null, .null])), (q_1, .inr (1, [.ref gr_8])), (gr_8, .inr (2, [.ref c9_9])), (c9_9, .inl (cG_10, 121, .inl (fun _ => (0 : Int32)))), (q_13, .inr (5, [.ref sh_20])), (sh_20, .inr (4, [.ref ar_21, .int (nI 0)])), (ar_21, .inl (cS_22, 40, .inr (.inr (.inr (.inr (fun _ => (none : Option Nat))))))), (q_25, .inr (6, [.ref ns_32])), (ns_32, .inr (3, [.ref na_33, .int (nI 0)])), (na_33, .inl (cJ_34, 401, .inr (.inl (fun _ => (0 : Int64))))), (q_37, .inr (4, [.ref ar_44, .int (nI 0)])), (ar_44, .inl (cS_45, 40, .inr (.inr (.inr (.inr (fun _ => (none : Option Nat))))))), (q_48, .inr (4, [.ref ar_55, .int (nI 0)])), (ar_55, .inl (cS_56, 40, .inr (.inr (.inr (.inr (fun _ => (none : Option Nat)))))))] := hD
  have hR := q_ro hR0 hna hS
  refine va_putF (D := D) (ci := 8) (v := .ref q_48) (ty := .object "FuzzyFens$Shelf") (C := RX9) (T := TX9) (N := 6) hx hb hts iX9_init_X9 tyX9 tyX9_ok nmX9 hown hK hP hD hS 0 rfl rfl 4 (by decide) (hts (.fieldLink RX9 37 "FuzzyFens" "ranked" "LFuzzyFens$Shelf;") (List.mem_of_getElem? (i := 20) rfl)) (fun _ h9 => h9) rfl hin rfl (by decide +kernel) rfl rfl (Nat.le_of_ble_eq_true rfl) dX9_init_56 (fun H_57 locs_58 hP hD hS => ?_)
  have hP : va_P D vwCl [(x, .inr (8, [.ref q_1, .ref q_13, .ref q_25, .ref q_37, .ref q_48, .null])), (q_1, .inr (1, [.ref gr_8])), (gr_8, .inr (2, [.ref c9_9])), (c9_9, .inl (cG_10, 121, .inl (fun _ => (0 : Int32)))), (q_13, .inr (5, [.ref sh_20])), (sh_20, .inr (4, [.ref ar_21, .int (nI 0)])), (ar_21, .inl (cS_22, 40, .inr (.inr (.inr (.inr (fun _ => (none : Option Nat))))))), (q_25, .inr (6, [.ref ns_32])), (ns_32, .inr (3, [.ref na_33, .int (nI 0)])), (na_33, .inl (cJ_34, 401, .inr (.inl (fun _ => (0 : Int64))))), (q_37, .inr (4, [.ref ar_44, .int (nI 0)])), (ar_44, .inl (cS_45, 40, .inr (.inr (.inr (.inr (fun _ => (none : Option Nat))))))), (q_48, .inr (4, [.ref ar_55, .int (nI 0)])), (ar_55, .inl (cS_56, 40, .inr (.inr (.inr (.inr (fun _ => (none : Option Nat)))))))] H_57 := hP
  have hD : va_D A [(x, .inr (8, [.ref q_1, .ref q_13, .ref q_25, .ref q_37, .ref q_48, .null])), (q_1, .inr (1, [.ref gr_8])), (gr_8, .inr (2, [.ref c9_9])), (c9_9, .inl (cG_10, 121, .inl (fun _ => (0 : Int32)))), (q_13, .inr (5, [.ref sh_20])), (sh_20, .inr (4, [.ref ar_21, .int (nI 0)])), (ar_21, .inl (cS_22, 40, .inr (.inr (.inr (.inr (fun _ => (none : Option Nat))))))), (q_25, .inr (6, [.ref ns_32])), (ns_32, .inr (3, [.ref na_33, .int (nI 0)])), (na_33, .inl (cJ_34, 401, .inr (.inl (fun _ => (0 : Int64))))), (q_37, .inr (4, [.ref ar_44, .int (nI 0)])), (ar_44, .inl (cS_45, 40, .inr (.inr (.inr (.inr (fun _ => (none : Option Nat))))))), (q_48, .inr (4, [.ref ar_55, .int (nI 0)])), (ar_55, .inl (cS_56, 40, .inr (.inr (.inr (.inr (fun _ => (none : Option Nat)))))))] := hD
  have hR := q_ro hR0 hna hS
  refine lv_aload_n hx hb dX9_init_59 rfl (lv_at hl 0 rfl) ?_
  refine va_new (D := D) (ci := 3) (fs := [.null, .int 0]) (C := RX4) (T := TX4) (N := 2) hx hb hts iX9_init_X4 tyX4 tyX4_ok hown (hts (.classLink RX9 40 RX4) (List.mem_of_getElem? (i := 21) rfl)) (hts (.instantiable RX4 2) (List.mem_of_getElem? (i := 22) rfl)) (hts (.initialized RX4) (List.mem_of_getElem? (i := 23) rfl)) hK hP hD hS hA rfl (fun j9 h9 => by rcases (show j9 = 0 ∨ j9 = 1 by omega) with rfl | rfl <;> rfl) (Nat.le_of_ble_eq_true rfl) (Nat.le_of_ble_eq_true rfl) dX9_init_60 (fun q_59 H_60 hP hD hS => ?_)
  have hP : va_P D vwCl [(x, .inr (8, [.ref q_1, .ref q_13, .ref q_25, .ref q_37, .ref q_48, .null])), (q_1, .inr (1, [.ref gr_8])), (gr_8, .inr (2, [.ref c9_9])), (c9_9, .inl (cG_10, 121, .inl (fun _ => (0 : Int32)))), (q_13, .inr (5, [.ref sh_20])), (sh_20, .inr (4, [.ref ar_21, .int (nI 0)])), (ar_21, .inl (cS_22, 40, .inr (.inr (.inr (.inr (fun _ => (none : Option Nat))))))), (q_25, .inr (6, [.ref ns_32])), (ns_32, .inr (3, [.ref na_33, .int (nI 0)])), (na_33, .inl (cJ_34, 401, .inr (.inl (fun _ => (0 : Int64))))), (q_37, .inr (4, [.ref ar_44, .int (nI 0)])), (ar_44, .inl (cS_45, 40, .inr (.inr (.inr (.inr (fun _ => (none : Option Nat))))))), (q_48, .inr (4, [.ref ar_55, .int (nI 0)])), (ar_55, .inl (cS_56, 40, .inr (.inr (.inr (.inr (fun _ => (none : Option Nat))))))), (q_59, .inr (3, [.null, .int 0]))] H_60 := hP
  have hD : va_D A [(x, .inr (8, [.ref q_1, .ref q_13, .ref q_25, .ref q_37, .ref q_48, .null])), (q_1, .inr (1, [.ref gr_8])), (gr_8, .inr (2, [.ref c9_9])), (c9_9, .inl (cG_10, 121, .inl (fun _ => (0 : Int32)))), (q_13, .inr (5, [.ref sh_20])), (sh_20, .inr (4, [.ref ar_21, .int (nI 0)])), (ar_21, .inl (cS_22, 40, .inr (.inr (.inr (.inr (fun _ => (none : Option Nat))))))), (q_25, .inr (6, [.ref ns_32])), (ns_32, .inr (3, [.ref na_33, .int (nI 0)])), (na_33, .inl (cJ_34, 401, .inr (.inl (fun _ => (0 : Int64))))), (q_37, .inr (4, [.ref ar_44, .int (nI 0)])), (ar_44, .inl (cS_45, 40, .inr (.inr (.inr (.inr (fun _ => (none : Option Nat))))))), (q_48, .inr (4, [.ref ar_55, .int (nI 0)])), (ar_55, .inl (cS_56, 40, .inr (.inr (.inr (.inr (fun _ => (none : Option Nat))))))), (q_59, .inr (3, [.null, .int 0]))] := hD
  have hR := q_ro hR0 hna hS
  refine lv_dup hx hb dX9_init_63 rfl ?_
  refine lv_bipush (v := nI 56) hx hb dX9_init_64 (by decide) ?_
  have hF := va_free (wc := [(q_59, .inr (3, [.null, .int 0]))]) hD hS hA [14] rfl
  refine va_callv (va_runI (As := [.int (nI 56)]) (rest := [.ref q_59, .ref x]) ⟨hx, hb, hml, hown, hts⟩ (c_X4_init_56 (l := l) (D := D) (ns := q_59) (sz := H_60.size) (hnd := (q_nds (q_ndg (l1 := [x, q_1, gr_8, c9_9, q_13, sh_20, ar_21, q_25, ns_32, na_33, q_37, ar_44, q_48, ar_55, q_59]) (l2 := []) hD hnR hna rfl rfl) [14] rfl rfl)) ) (cwI 1 hts ggX9_init_X4_init rfl rfl rfl (hts (.initialized RX4) (List.mem_of_getElem? (i := 23) rfl)) (hts (.methodLink RX9 42 yX4_init) (List.mem_of_getElem? (i := 58) rfl)) (hts (.instanceMethod yX4_init) (List.mem_of_getElem? (i := 53) rfl)) rfl (by decide +kernel) ⟨Nat.le_of_ble_eq_true rfl, Nat.le_of_ble_eq_true rfl⟩) ⟨qW_blind, (qW_of (q_Pof (fun _ h => absurd h List.not_mem_nil)) (hP.sub (ws' := [(q_59, .inr (3, [.null, .int 0]))]) [14] rfl) (hK.sub (tys' := []) [] rfl) hNw)⟩ rfl rfl hl.1 rfl (lv_room (Nat.le_of_ble_eq_true rfl)) dX9_init_66 ⟨Nat.le_of_ble_eq_true rfl, Nat.le_of_ble_eq_true rfl⟩) hS (fun q _ h => hF q h) hF (fun u_65 t_64 H_62 locs_63 ht hvm hr_61 hB hz1 hk1 hS => ?_)
  obtain ⟨na_66, cJ_67⟩ := u_65
  dsimp only at hr_61 hB
  obtain ⟨hB1, hB2, hB3⟩ := hB
  replace hB1 : va_P D vwCl ([(q_59, .inr (3, [.ref na_66, .int (nI 0)]))] ++ [(na_66, .inl (cJ_67, 56, .inr (.inl (fun _ => (0 : Int64)))))]) H_62 := by rw [← ht]; exact hB1
  obtain ⟨hP, hD⟩ := q_joinN (wc := [(q_59, .inr (3, [.null, .int 0]))]) (w1 := [(q_59, .inr (3, [.ref na_66, .int (nI 0)]))]) (wn := [(na_66, .inl (cJ_67, 56, .inr (.inl (fun _ => (0 : Int64)))))]) (ws' := [(x, .inr (8, [.ref q_1, .ref q_13, .ref q_25, .ref q_37, .ref q_48, .null])), (q_1, .inr (1, [.ref gr_8])), (gr_8, .inr (2, [.ref c9_9])), (c9_9, .inl (cG_10, 121, .inl (fun _ => (0 : Int32)))), (q_13, .inr (5, [.ref sh_20])), (sh_20, .inr (4, [.ref ar_21, .int (nI 0)])), (ar_21, .inl (cS_22, 40, .inr (.inr (.inr (.inr (fun _ => (none : Option Nat))))))), (q_25, .inr (6, [.ref ns_32])), (ns_32, .inr (3, [.ref na_33, .int (nI 0)])), (na_33, .inl (cJ_34, 401, .inr (.inl (fun _ => (0 : Int64))))), (q_37, .inr (4, [.ref ar_44, .int (nI 0)])), (ar_44, .inl (cS_45, 40, .inr (.inr (.inr (.inr (fun _ => (none : Option Nat))))))), (q_48, .inr (4, [.ref ar_55, .int (nI 0)])), (ar_55, .inl (cS_56, 40, .inr (.inr (.inr (.inr (fun _ => (none : Option Nat))))))), (q_59, .inr (3, [.ref na_66, .int (nI 0)]))]) [14] hP hD rfl rfl hk1 hF hB1 hB2 rfl
  have hK : va_K D vwCl [(cG_10, .int), (cS_22, .object "FuzzyFens$Entry"), (cJ_34, .long), (cS_45, .object "FuzzyFens$Entry"), (cS_56, .object "FuzzyFens$Entry"), (cJ_67, .long)] s := hK.app (va_K.moved hvm.symm hB3)
  have hP : va_P D vwCl [(x, .inr (8, [.ref q_1, .ref q_13, .ref q_25, .ref q_37, .ref q_48, .null])), (q_1, .inr (1, [.ref gr_8])), (gr_8, .inr (2, [.ref c9_9])), (c9_9, .inl (cG_10, 121, .inl (fun _ => (0 : Int32)))), (q_13, .inr (5, [.ref sh_20])), (sh_20, .inr (4, [.ref ar_21, .int (nI 0)])), (ar_21, .inl (cS_22, 40, .inr (.inr (.inr (.inr (fun _ => (none : Option Nat))))))), (q_25, .inr (6, [.ref ns_32])), (ns_32, .inr (3, [.ref na_33, .int (nI 0)])), (na_33, .inl (cJ_34, 401, .inr (.inl (fun _ => (0 : Int64))))), (q_37, .inr (4, [.ref ar_44, .int (nI 0)])), (ar_44, .inl (cS_45, 40, .inr (.inr (.inr (.inr (fun _ => (none : Option Nat))))))), (q_48, .inr (4, [.ref ar_55, .int (nI 0)])), (ar_55, .inl (cS_56, 40, .inr (.inr (.inr (.inr (fun _ => (none : Option Nat))))))), (q_59, .inr (3, [.ref na_66, .int (nI 0)])), (na_66, .inl (cJ_67, 56, .inr (.inl (fun _ => (0 : Int64)))))] H_62 := hP
  have hD : va_D A [(x, .inr (8, [.ref q_1, .ref q_13, .ref q_25, .ref q_37, .ref q_48, .null])), (q_1, .inr (1, [.ref gr_8])), (gr_8, .inr (2, [.ref c9_9])), (c9_9, .inl (cG_10, 121, .inl (fun _ => (0 : Int32)))), (q_13, .inr (5, [.ref sh_20])), (sh_20, .inr (4, [.ref ar_21, .int (nI 0)])), (ar_21, .inl (cS_22, 40, .inr (.inr (.inr (.inr (fun _ => (none : Option Nat))))))), (q_25, .inr (6, [.ref ns_32])), (ns_32, .inr (3, [.ref na_33, .int (nI 0)])), (na_33, .inl (cJ_34, 401, .inr (.inl (fun _ => (0 : Int64))))), (q_37, .inr (4, [.ref ar_44, .int (nI 0)])), (ar_44, .inl (cS_45, 40, .inr (.inr (.inr (.inr (fun _ => (none : Option Nat))))))), (q_48, .inr (4, [.ref ar_55, .int (nI 0)])), (ar_55, .inl (cS_56, 40, .inr (.inr (.inr (.inr (fun _ => (none : Option Nat))))))), (q_59, .inr (3, [.ref na_66, .int (nI 0)])), (na_66, .inl (cJ_67, 56, .inr (.inl (fun _ => (0 : Int64)))))] := hD
  have hR := q_ro hR0 hna hS
  refine va_putF (D := D) (ci := 8) (v := .ref q_59) (ty := .object "FuzzyFens$NumberSet") (C := RX9) (T := TX9) (N := 6) hx hb hts iX9_init_X9 tyX9 tyX9_ok nmX9 hown hK hP hD hS 0 rfl rfl 5 (by decide) (hts (.fieldLink RX9 45 "FuzzyFens" "sequences" "LFuzzyFens$NumberSet;") (List.mem_of_getElem? (i := 24) rfl)) (fun _ h9 => h9) rfl hin rfl (by decide +kernel) rfl rfl (Nat.le_of_ble_eq_true rfl) dX9_init_69 (fun H_68 locs_69 hP hD hS => ?_)
  have hP : va_P D vwCl [(x, .inr (8, [.ref q_1, .ref q_13, .ref q_25, .ref q_37, .ref q_48, .ref q_59])), (q_1, .inr (1, [.ref gr_8])), (gr_8, .inr (2, [.ref c9_9])), (c9_9, .inl (cG_10, 121, .inl (fun _ => (0 : Int32)))), (q_13, .inr (5, [.ref sh_20])), (sh_20, .inr (4, [.ref ar_21, .int (nI 0)])), (ar_21, .inl (cS_22, 40, .inr (.inr (.inr (.inr (fun _ => (none : Option Nat))))))), (q_25, .inr (6, [.ref ns_32])), (ns_32, .inr (3, [.ref na_33, .int (nI 0)])), (na_33, .inl (cJ_34, 401, .inr (.inl (fun _ => (0 : Int64))))), (q_37, .inr (4, [.ref ar_44, .int (nI 0)])), (ar_44, .inl (cS_45, 40, .inr (.inr (.inr (.inr (fun _ => (none : Option Nat))))))), (q_48, .inr (4, [.ref ar_55, .int (nI 0)])), (ar_55, .inl (cS_56, 40, .inr (.inr (.inr (.inr (fun _ => (none : Option Nat))))))), (q_59, .inr (3, [.ref na_66, .int (nI 0)])), (na_66, .inl (cJ_67, 56, .inr (.inl (fun _ => (0 : Int64)))))] H_68 := hP
  have hD : va_D A [(x, .inr (8, [.ref q_1, .ref q_13, .ref q_25, .ref q_37, .ref q_48, .ref q_59])), (q_1, .inr (1, [.ref gr_8])), (gr_8, .inr (2, [.ref c9_9])), (c9_9, .inl (cG_10, 121, .inl (fun _ => (0 : Int32)))), (q_13, .inr (5, [.ref sh_20])), (sh_20, .inr (4, [.ref ar_21, .int (nI 0)])), (ar_21, .inl (cS_22, 40, .inr (.inr (.inr (.inr (fun _ => (none : Option Nat))))))), (q_25, .inr (6, [.ref ns_32])), (ns_32, .inr (3, [.ref na_33, .int (nI 0)])), (na_33, .inl (cJ_34, 401, .inr (.inl (fun _ => (0 : Int64))))), (q_37, .inr (4, [.ref ar_44, .int (nI 0)])), (ar_44, .inl (cS_45, 40, .inr (.inr (.inr (.inr (fun _ => (none : Option Nat))))))), (q_48, .inr (4, [.ref ar_55, .int (nI 0)])), (ar_55, .inl (cS_56, 40, .inr (.inr (.inr (.inr (fun _ => (none : Option Nat))))))), (q_59, .inr (3, [.ref na_66, .int (nI 0)])), (na_66, .inl (cJ_67, 56, .inr (.inl (fun _ => (0 : Int64)))))] := hD
  have hR := q_ro hR0 hna hS
  refine W.widen (k := 15) (n := 712) (Nat.le_of_ble_eq_true rfl) (Nat.le_of_ble_eq_true rfl) ?_
  exact W.vret hx hb hr (fun t9 ht hW => ⟨⟨(q_1, gr_8, c9_9, cG_10, q_13, sh_20, ar_21, cS_22, q_25, ns_32, na_33, cJ_34, q_37, ar_44, cS_45, q_48, ar_55, cS_56, q_59, na_66, cJ_67), rfl, trivial, by show va_P D vwCl _ t9.heap; rw [ht]; exact hP, hD, (va_K.moved hW.alike (hK.sub (tys' := [(cG_10, .int), (cS_22, .object "FuzzyFens$Entry"), (cJ_34, .long), (cS_45, .object "FuzzyFens$Entry"), (cS_56, .object "FuzzyFens$Entry"), (cJ_67, .long)]) [0, 1, 2, 3, 4, 5] rfl))⟩, hS.F ht⟩) hS.2.2 dX9_init_72
