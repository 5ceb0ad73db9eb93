set_option maxRecDepth 20000 in
theorem iX10_thrown_X10 : ∀ w ∈ wsX100, w ∈ wsX10_thrown := by decide +kernel
set_option maxHeartbeats 4000000 in
set_option maxRecDepth 100000 in
/-- thrown -/
theorem c_X10_thrown (l : Launch) (D : va_G) (mo : Nat) (mw : Nat) (mct : Nat) (mp : Nat) (mnm : Nat) (m1 : Nat) (m2 : Nat) (mt : Nat) (mk : Nat) (mr : Nat) (ml : Nat) (mq : Nat) (th : Int32) (n : Nat) (om : Int32) (tm : Int32)  : Met l yX10_thrown wsX10_thrown { frames := 0, cells := 0, slots := 0, locals := 0 } (va_Pc [.ref mo] (qP D ([(mo, .inr (9, [.int th, .int (nI n), .ref mw, .ref mct, .ref mp, .ref mnm, .ref m1, .ref m2, .int om, .int tm, .ref mt, .ref mk, .ref mr, .ref ml, .ref mq]))]) [])) (vp_Si (fun rv : Int32 => rv = th)) 0 0 (fun _ => False) := by
  refine Met.ofW (cc := cX10_thrown) (maxL := 1) (ret := (some .int)) (by decide) rfl ?_
  intro pM eM s mi9 argsM belowM methM cM sM B hml hv
  obtain ⟨rfl, hR, hK, hNw⟩ := hv
  have hx := B.exec
  have hb := B.bytes
  have hr := B.returns
  have hts := atoms_spec (ws := wsX10_thrown) B.pre
  have hown : s.vm.findClass RX10 = some mi9.cls := findClass_of_methodNamed B.named
  have hlocks := B.notSynchronized
  have hS : va_S (fun _ => False) s.heap s.heap [] := va_S.rf
  have hR : va_P D vwCl ([(mo, .inr (9, [.int th, .int (nI n), .ref mw, .ref mct, .ref mp, .ref mnm, .ref m1, .ref m2, .int om, .int tm, .ref mt, .ref mk, .ref mr, .ref ml, .ref mq]))]) s.heap := hR
  have hl := lv_entry ([.ref mo]) (n := 1) (Nat.le_of_ble_eq_true rfl)
  rw [lg_entry_eq]
  generalize (lg_sl ([.ref mo]) ++ List.replicate (1 - (lg_sl ([.ref mo])).length) Slot.unset).toArray = ls at hl ⊢
  have hl : lv_has ls 1 [(0, .ref mo)] := hl
  refine lv_aload_n hx hb dX10_thrown_0 rfl (lv_at hl 0 rfl) ?_
  refine va_get (D := D) (own := RX10) (ref := "FuzzyFensModel") (ci := 9) (v := .int th) (C := RX10) (T := TX10) (N := 15) hx hb hts iX10_thrown_X10 hown hK hR 0 rfl rfl 0 (by decide) (hts (.fieldLink RX10 44 "FuzzyFensModel" "thrown" "I") (List.mem_of_getElem? (i := 1) rfl)) (fun _ h9 => h9) rfl dX10_thrown_1 ?_
  exact W.iret (v := th) hx hb hr (fun t9 ht _ => ⟨th, rfl, rfl, ht⟩) (fun _ h => absurd h List.not_mem_nil) dX10_thrown_4

set_option maxRecDepth 20000 in
theorem iX10_goesWell_X10 : ∀ w ∈ wsX100, w ∈ wsX10_goesWell := by decide +kernel
set_option maxHeartbeats 4000000 in
set_option maxRecDepth 100000 in
/-- goesWell -/
theorem c_X10_goesWell (l : Launch) (D : va_G) (sz : Nat) (mo : Nat) (mw : Nat) (mct : Nat) (mp : Nat) (mnm : Nat) (m1 : Nat) (m2 : Nat) (mt : Nat) (mk : Nat) (mr : Nat) (ml : Nat) (mq : Nat) (th : Int32) (n : Nat) (om : Int32) (tm : Int32) (x9 : Nat) (hnd : ([mo] ++ []).Nodup) (hx9 : x9 < 2 ^ 31) : Met l yX10_goesWell wsX10_goesWell { frames := 0, cells := 0, slots := 0, locals := 0 } (va_Pc [.ref mo, .int (nI x9)] (qW D sz ([]) [(mo, .inr (9, [.int th, .int (nI n), .ref mw, .ref mct, .ref mp, .ref mnm, .ref m1, .ref m2, .int om, .int tm, .ref mt, .ref mk, .ref mr, .ref ml, .ref mq]))] [])) (va_Qi (fun (rv : Int32) (uv : Unit) => rv = (if x9 = 0 then 1 else 0)) (fun (uv : Unit) (tv : State) => va_P D vwCl [(mo, .inr (9, [.int (nI x9), .int (nI n), .ref mw, .ref mct, .ref mp, .ref mnm, .ref m1, .ref m2, .int om, .int tm, .ref mt, .ref mk, .ref mr, .ref ml, .ref mq]))] tv.heap) (va_A [(mo, .inr (9, [.int th, .int (nI n), .ref mw, .ref mct, .ref mp, .ref mnm, .ref m1, .ref m2, .int om, .int tm, .ref mt, .ref mk, .ref mr, .ref ml, .ref mq]))] sz)) 0 0 (va_A [(mo, .inr (9, [.int th, .int (nI n), .ref mw, .ref mct, .ref mp, .ref mnm, .ref m1, .ref m2, .int om, .int tm, .ref mt, .ref mk, .ref mr, .ref ml, .ref mq]))] sz) := by
  refine Met.ofW (cc := cX10_goesWell) (maxL := 2) (ret := (some .boolean)) (by decide) rfl ?_
  intro pM eM s mi9 argsM belowM methM cM sM B hml hv
  obtain ⟨rfl, hsz, hR0, hP, hK, hNw⟩ := hv
  have hx := B.exec
  have hb := B.bytes
  have hr := B.returns
  have hts := atoms_spec (ws := wsX10_goesWell) B.pre
  have hown : s.vm.findClass RX10 = some mi9.cls := findClass_of_methodNamed B.named
  have hlocks := B.notSynchronized
  subst hsz
  have hna := q_na (RW := [(mo, .inr (9, [.int th, .int (nI n), .ref mw, .ref mct, .ref mp, .ref mnm, .ref m1, .ref m2, .int om, .int tm, .ref mt, .ref mk, .ref mr, .ref ml, .ref mq]))]) (RO := []) hnd rfl rfl hR0
  have hD := q_D (RW := [(mo, .inr (9, [.int th, .int (nI n), .ref mw, .ref mct, .ref mp, .ref mnm, .ref m1, .ref m2, .int om, .int tm, .ref mt, .ref mk, .ref mr, .ref ml, .ref mq]))]) (sz := s.heap.size) hnd rfl
  have hA : ∀ q : Nat, s.heap.size ≤ q → va_A [(mo, .inr (9, [.int th, .int (nI n), .ref mw, .ref mct, .ref mp, .ref mnm, .ref m1, .ref m2, .int om, .int tm, .ref mt, .ref mk, .ref mr, .ref ml, .ref mq]))] s.heap.size q := fun q h => Or.inr h
  generalize hAe : va_A [(mo, .inr (9, [.int th, .int (nI n), .ref mw, .ref mct, .ref mp, .ref mnm, .ref m1, .ref m2, .int om, .int tm, .ref mt, .ref mk, .ref mr, .ref ml, .ref mq]))] s.heap.size = A at hna hD hA ⊢
  have hS : va_S A s.heap s.heap [] := va_S.rf
  have hR := hR0
  have hP : va_P D vwCl [(mo, .inr (9, [.int th, .int (nI n), .ref mw, .ref mct, .ref mp, .ref mnm, .ref m1, .ref m2, .int om, .int tm, .ref mt, .ref mk, .ref mr, .ref ml, .ref mq]))] s.heap := hP
  have hl := lv_entry ([.ref mo, .int (nI x9)]) (n := 2) (Nat.le_of_ble_eq_true rfl)
  rw [lg_entry_eq]
  generalize (lg_sl ([.ref mo, .int (nI x9)]) ++ List.replicate (2 - (lg_sl ([.ref mo, .int (nI x9)])).length) Slot.unset).toArray = ls at hl ⊢
  have hl : lv_has ls 2 [(0, .ref mo), (1, .int (nI x9))] := hl
  refine lv_aload_n hx hb dX10_goesWell_0 rfl (lv_at hl 0 rfl) ?_
  refine lv_iload_n hx hb dX10_goesWell_1 rfl (lv_at hl 1 rfl) ?_
  refine va_put (D := D) (ci := 9) (v := .int (nI x9)) (ty := .int) (C := RX10) (T := TX10) (N := 15) hx hb hts iX10_goesWell_X10 tyX10 tyX10_ok nmX10 hown hK hP hD hS 0 rfl rfl 0 (by decide) (hts (.fieldLink RX10 44 "FuzzyFensModel" "thrown" "I") (List.mem_of_getElem? (i := 1) rfl)) (fun _ h9 => h9) rfl (by decide +kernel) rfl rfl (Nat.le_of_ble_eq_true rfl) dX10_goesWell_2 (fun H_1 locs_2 hP hD hS => ?_)
  have hP : va_P D vwCl [(mo, .inr (9, [.int (nI x9), .int (nI n), .ref mw, .ref mct, .ref mp, .ref mnm, .ref m1, .ref m2, .int om, .int tm, .ref mt, .ref mk, .ref mr, .ref ml, .ref mq]))] H_1 := hP
  have hD : va_D A [(mo, .inr (9, [.int (nI x9), .int (nI n), .ref mw, .ref mct, .ref mp, .ref mnm, .ref m1, .ref m2, .int om, .int tm, .ref mt, .ref mk, .ref mr, .ref ml, .ref mq]))] := hD
  have hR := q_ro hR0 hna hS
  refine lv_iload_n hx hb dX10_goesWell_5 rfl (lv_at hl 1 rfl) ?_
  refine q_if_ne (a := x9) (tgt := 13) hx hb dX10_goesWell_6 (by decide) (by omega) (fun c_6 => ?_) (fun c_6 => ?_)
  · skip
    refine lv_iconst (v := nI 0) hx hb dX10_goesWell_13 (by decide) ?_
    exact W.zret (v := nI 0) hx hb hr (by decide) (fun t9 ht hW => ⟨⟨nI 0, (), rfl, (if_neg (by omega)).symm, by show va_P D vwCl _ t9.heap; rw [ht]; exact hP⟩, hS.F ht⟩) hS.2.2 dX10_goesWell_14
  · skip
    refine lv_iconst (v := nI 1) hx hb dX10_goesWell_9 (by decide) ?_
    refine lv_goto (tgt := 14) hx hb dX10_goesWell_10 (by decide) ?_
    exact W.zret (v := nI 1) hx hb hr (by decide) (fun t9 ht hW => ⟨⟨nI 1, (), rfl, (if_pos (by omega)).symm, by show va_P D vwCl _ t9.heap; rw [ht]; exact hP⟩, hS.F ht⟩) hS.2.2 dX10_goesWell_14

set_option maxHeartbeats 4000000 in
set_option maxRecDepth 100000 in
/-- lengthOf -/
theorem c_X10_lengthOf (l : Launch) (D : va_G) (a : Nat) (ha : a < 2 ^ 63) : Met l yX10_lengthOf wsX10_lengthOf { frames := 0, cells := 0, slots := 0, locals := 0 } (va_Pc [.long (lN a)] (qP D ([]) [])) (vp_Si (fun rv : Int32 => rv = nI (wl a))) 0 0 (fun _ => False) := by
  refine Met.ofW (cc := cX10_lengthOf) (maxL := 5) (ret := (some .int)) (by decide) rfl ?_
  intro pM eM s mi9 argsM belowM methM cM sM B hml hv
  obtain ⟨rfl, hR, hK, hNw⟩ := hv
  have hx := B.exec
  have hb := B.bytes
  have hr := B.returns
  have hts := atoms_spec (ws := wsX10_lengthOf) B.pre
  have hown : s.vm.findClass RX10 = some mi9.cls := findClass_of_methodNamed B.named
  have hlocks := B.notSynchronized
  have hS : va_S (fun _ => False) s.heap s.heap [] := va_S.rf
  have hR : va_P D vwCl ([]) s.heap := hR
  have hl := lv_entry ([.long (lN a)]) (n := 5) (Nat.le_of_ble_eq_true rfl)
  rw [lg_entry_eq]
  generalize (lg_sl ([.long (lN a)]) ++ List.replicate (5 - (lg_sl ([.long (lN a)])).length) Slot.unset).toArray = ls at hl ⊢
  have hl : lv_has ls 5 [(0, .long (lN a))] := hl
  refine lv_iconst (v := nI 0) hx hb dX10_lengthOf_0 (by decide) ?_
  refine lv_istore_n (lv' := [(2, .int (nI 0)), (0, .long (lN a))]) hx hb dX10_lengthOf_1 rfl hl (by decide) rfl (fun ls hl => ?_)
  refine lv_lload_n hx hb dX10_lengthOf_2 rfl (lv_at hl 1 rfl) ?_
  refine lv_lstore_n (lv' := [(3, .long (lN a)), (2, .int (nI 0)), (0, .long (lN a))]) hx hb dX10_lengthOf_3 rfl hl (by decide) rfl (fun ls hl => ?_)
  refine q_loop (fun (x : (Nat) × (Nat)) (Hc : Heap) (Lc : List Loc) (ls : Array Slot) => match x with | (len, r) => (len + wl r = wl a) ∧ (r ≤ a) ∧ s.heap = Hc ∧ [] = Lc ∧ lv_has ls 5 [(3, .long (lN r)), (2, .int (nI len)), (0, .long (lN a))]) (fun (x : (Nat) × (Nat)) => match x with | (len, r) => r) (0, a) ⟨(by omega), (Nat.le_refl _), rfl, rfl, (lv_sub hl [0, 1, 2] rfl)⟩ ?_
  clear hl
  rintro ⟨len, r⟩ Hc Lc ls hI ih_4
  obtain ⟨h1, h2, rfl, rfl, hl⟩ := hI
  refine lv_lload_n hx hb dX10_lengthOf_4 rfl (lv_at hl 0 rfl) ?_
  refine lv_lconst (v := lN 0) hx hb dX10_lengthOf_5 (by decide) ?_
  refine W.lcmp hx hb dX10_lengthOf_6 ?_
  refine q_lz_le (a := r) (tgt := 22) hx hb dX10_lengthOf_7 (by decide) (by omega) (fun c_7 => ?_) (fun c_7 => ?_)
  · skip
    refine lv_iload_n hx hb dX10_lengthOf_22 rfl (lv_at hl 1 rfl) ?_
    have h9 : r = 0 := by omega
    rw [h9, wl_0] at h1
    exact W.iret (v := nI len) hx hb hr (fun t9 ht _ => ⟨nI len, rfl, (by first | rfl | exact congrArg nI (by omega)), ht⟩) (fun _ h => absurd h List.not_mem_nil) dX10_lengthOf_23
  · skip
    refine lv_iinc (v := nI (len + 1)) (lv' := [(2, .int (nI (len + 1))), (3, .long (lN r)), (0, .long (lN a))]) hx hb dX10_lengthOf_10 hl (k := 1) rfl (q_inc (k := 1) (by omega)) (by decide) rfl (fun ls hl => ?_)
    refine lv_lload_n hx hb dX10_lengthOf_13 rfl (lv_at hl 1 rfl) ?_
    refine lv_ldc2 (v := 32) hx hb hown (hts (.constantLong RX10 48 (32)) (List.mem_of_getElem? (i := 1) rfl)) dX10_lengthOf_14 ?_
    refine q_cvl (show (32 : Int64) = lN 32 by decide) ?_
    refine lv_ldiv hx hb dX10_lengthOf_17 (by decide) ?_
    refine q_cvl (pk_lDiv (by omega) (by decide) (by decide)) ?_
    refine lv_lstore_n (lv' := [(3, .long (lN (r / 32))), (2, .int (nI (len + 1))), (0, .long (lN a))]) hx hb dX10_lengthOf_18 rfl hl (by decide) rfl (fun ls hl => ?_)
    refine lv_goto (tgt := 4) hx hb dX10_lengthOf_19 (by decide) ?_
    exact ih_4 (len + 1, r / 32) _ _ _ ⟨(by have := wl_s (k := r) (by omega); omega), (by omega), rfl, rfl, (lv_sub hl [0, 1, 2] rfl)⟩ (by show (r / 32) < r; omega)

set_option maxHeartbeats 4000000 in
set_option maxRecDepth 100000 in
/-- isWord -/
theorem c_X10_isWord (l : Launch) (D : va_G) (a : Nat) (ha : a < 2 ^ 64) : Met l yX10_isWord wsX10_isWord { frames := 1, cells := 0, slots := 0, locals := 24 } (va_Pc [.long (lN a)] (qP D ([]) [])) (vp_Si (fun rv : Int32 => rv = (if gw a then 1 else 0))) 0 0 (fun _ => False) := by
  refine Met.ofW (cc := cX10_isWord) (maxL := 5) (ret := (some .boolean)) (by decide) rfl ?_
  intro pM eM s mi9 argsM belowM methM cM sM B hml hv
  obtain ⟨rfl, hR, hK, hNw⟩ := hv
  have hx := B.exec
  have hb := B.bytes
  have hr := B.returns
  have hts := atoms_spec (ws := wsX10_isWord) B.pre
  have hown : s.vm.findClass RX10 = some mi9.cls := findClass_of_methodNamed B.named
  have hlocks := B.notSynchronized
  have hS : va_S (fun _ => False) s.heap s.heap [] := va_S.rf
  have hR : va_P D vwCl ([]) s.heap := hR
  have hl := lv_entry ([.long (lN a)]) (n := 5) (Nat.le_of_ble_eq_true rfl)
  rw [lg_entry_eq]
  generalize (lg_sl ([.long (lN a)]) ++ List.replicate (5 - (lg_sl ([.long (lN a)])).length) Slot.unset).toArray = ls at hl ⊢
  have hl : lv_has ls 5 [(0, .long (lN a))] := hl
  refine lv_lload_n hx hb dX10_isWord_0 rfl (lv_at hl 0 rfl) ?_
  refine lv_lconst (v := lN 0) hx hb dX10_isWord_1 (by decide) ?_
  refine q_cut 20 (fun (x : (Nat)) (Hc : Heap) (Lc : List Loc) (ls : Array Slot) (st : List Value) => match x with | b => (b ≤ 1) ∧ (b = 1 ↔ (0 < a ∧ a < 2 ^ 63) ∧ wl a ≤ 10) ∧ s.heap = Hc ∧ [] = Lc ∧ lv_has ls 5 [(0, .long (lN a))] ∧ [.int (nI b)] = st) ?_ ?_
  · clear hl
    rintro b Hc Lc ls st hI
    obtain ⟨hb1, hbb, rfl, rfl, hl, rfl⟩ := hI
    refine lv_istore_n (lv' := [(2, .int (nI b)), (0, .long (lN a))]) hx hb dX10_isWord_20 rfl hl (by decide) rfl (fun ls hl => ?_)
    refine lv_lload_n hx hb dX10_isWord_21 rfl (lv_at hl 1 rfl) ?_
    refine lv_lstore_n (lv' := [(3, .long (lN a)), (2, .int (nI b)), (0, .long (lN a))]) hx hb dX10_isWord_22 rfl hl (by decide) rfl (fun ls hl => ?_)
    refine q_loop (fun (x : (Nat) × (Nat)) (Hc : Heap) (Lc : List Loc) (ls : Array Slot) => match x with | (b, r) => (b ≤ 1) ∧ (b = 1 → a < 2 ^ 63) ∧ (gw a ↔ (b = 1 ∧ okd 13 r = true)) ∧ (r ≤ a) ∧ s.heap = Hc ∧ [] = Lc ∧ lv_has ls 5 [(3, .long (lN r)), (2, .int (nI b)), (0, .long (lN a))]) (fun (x : (Nat) × (Nat)) => match x with | (b, r) => r) (b, a) ⟨hb1, (fun h => (hbb.mp h).1.2), (by rw [gw_iff, hbb]; constructor; (intro h; have := gw_lt (gw_iff.mpr h); exact ⟨⟨⟨h.1.1, by omega⟩, h.1.2⟩, h.2⟩); (intro h; exact ⟨⟨h.1.1.1, h.1.2⟩, h.2⟩)), (Nat.le_refl _), rfl, rfl, (lv_sub hl [0, 1, 2] rfl)⟩ ?_
    clear hl
    rintro ⟨b, r⟩ Hc Lc ls hI ih_23
    obtain ⟨hb1, hb2, hbb, hrr, rfl, rfl, hl⟩ := hI
    refine lv_lload_n hx hb dX10_isWord_23 rfl (lv_at hl 0 rfl) ?_
    refine lv_lconst (v := lN 0) hx hb dX10_isWord_24 (by decide) ?_
    refine W.lcmp hx hb dX10_isWord_25 ?_
    refine q_lz_le (a := r) (tgt := 70) hx hb dX10_isWord_26 (by decide) (by omega) (fun c_26 => ?_) (fun c_26 => ?_)
    · skip
      refine lv_iload_n hx hb dX10_isWord_70 rfl (lv_at hl 1 rfl) ?_
      have h9 : gw a ↔ b = 1 := by
        rcases (show r = 0 ∨ 2 ^ 63 ≤ r by omega) with h8 | h8
        · rw [hbb, h8]; simp [okd_z]
        · constructor
          · intro h; have := gw_lt h; omega
          · intro h; have := hb2 h; omega
      exact W.zret (v := nI b) hx hb hr (by rcases (show b = 0 ∨ b = 1 by omega) with h8 | h8 <;> rw [h8] <;> rfl) (fun t9 ht _ => ⟨nI b, rfl, (by by_cases h8 : b = 1; (rw [if_pos (h9.mpr h8), h8]; rfl); (rw [if_neg (fun h => h8 (h9.mp h)), show b = 0 by omega]; rfl)), ht⟩) (fun _ h => absurd h List.not_mem_nil) dX10_isWord_71
    · skip
      refine q_cut 60 (fun (x : (Nat)) (Hc : Heap) (Lc : List Loc) (ls : Array Slot) (st : List Value) => match x with | b2 => (b2 ≤ 1) ∧ (b2 = 1 ↔ (b = 1 ∧ (1 ≤ r % 32 ∧ r % 32 ≤ 26))) ∧ s.heap = Hc ∧ [] = Lc ∧ lv_has ls 5 [(3, .long (lN r)), (2, .int (nI b)), (0, .long (lN a))] ∧ [.int (nI b2)] = st) ?_ ?_
      · clear hl
        rintro b2 Hc Lc ls st hI
        obtain ⟨h3, h4, rfl, rfl, hl, rfl⟩ := hI
        refine lv_istore_n (lv' := [(2, .int (nI b2)), (3, .long (lN r)), (0, .long (lN a))]) hx hb dX10_isWord_60 rfl hl (by decide) rfl (fun ls hl => ?_)
        refine lv_lload_n hx hb dX10_isWord_61 rfl (lv_at hl 1 rfl) ?_
        refine lv_ldc2 (v := 32) hx hb hown (hts (.constantLong RX10 48 (32)) (List.mem_of_getElem? (i := 1) rfl)) dX10_isWord_62 ?_
        refine q_cvl (show (32 : Int64) = lN 32 by decide) ?_
        refine lv_ldiv hx hb dX10_isWord_65 (by decide) ?_
        refine q_cvl (pk_lDiv (by omega) (by decide) (by decide)) ?_
        refine lv_lstore_n (lv' := [(3, .long (lN (r / 32))), (2, .int (nI b2)), (0, .long (lN a))]) hx hb dX10_isWord_66 rfl hl (by decide) rfl (fun ls hl => ?_)
        refine lv_goto (tgt := 23) hx hb dX10_isWord_67 (by decide) ?_
        exact ih_23 (b2, r / 32) _ _ _ ⟨h3, (fun h => by omega), (by rw [hbb, okd_13s (by omega) (by omega)]; constructor; (intro h; exact ⟨h4.mpr ⟨h.1, h.2.1⟩, h.2.2⟩); (intro h; have := h4.mp h.1; exact ⟨this.1, this.2, h.2⟩)), (by omega), rfl, rfl, (lv_sub hl [0, 1, 2] rfl)⟩ (by show (r / 32) < r; omega)
      · intro hcut_60
        refine lv_iload_n hx hb dX10_isWord_29 rfl (lv_at hl 1 rfl) ?_
        refine q_if_eq (a := b) (tgt := 59) hx hb dX10_isWord_30 (by decide) (by omega) (fun c_30 => ?_) (fun c_30 => ?_)
        · skip
          refine lv_iconst (v := nI 0) hx hb dX10_isWord_59 (by decide) ?_
          exact hcut_60 0 _ _ _ _ ⟨(by omega), (by omega), rfl, rfl, (lv_sub hl [0, 1, 2] rfl), rfl⟩
        · skip
          refine lv_lload_n hx hb dX10_isWord_33 rfl (lv_at hl 0 rfl) ?_
          refine lv_ldc2 (v := 32) hx hb hown (hts (.constantLong RX10 48 (32)) (List.mem_of_getElem? (i := 1) rfl)) dX10_isWord_34 ?_
          refine q_cvl (show (32 : Int64) = lN 32 by decide) ?_
          refine lv_lrem hx hb dX10_isWord_37 (by decide) ?_
          refine q_cvl (pk_lRem (by omega) (by decide) (by decide)) ?_
          refine lv_lconst (v := lN 1) hx hb dX10_isWord_38 (by decide) ?_
          refine W.lcmp hx hb dX10_isWord_39 ?_
          refine q_lc_lt (a := r % 32) (b := 1) (tgt := 59) hx hb dX10_isWord_40 (by decide) (by omega) (by omega) (fun c_40 => ?_) (fun c_40 => ?_)
          · skip
            refine lv_iconst (v := nI 0) hx hb dX10_isWord_59 (by decide) ?_
            exact hcut_60 0 _ _ _ _ ⟨(by omega), (by omega), rfl, rfl, (lv_sub hl [0, 1, 2] rfl), rfl⟩
          · skip
            refine lv_lload_n hx hb dX10_isWord_43 rfl (lv_at hl 0 rfl) ?_
            refine lv_ldc2 (v := 32) hx hb hown (hts (.constantLong RX10 48 (32)) (List.mem_of_getElem? (i := 1) rfl)) dX10_isWord_44 ?_
            refine q_cvl (show (32 : Int64) = lN 32 by decide) ?_
            refine lv_lrem hx hb dX10_isWord_47 (by decide) ?_
            refine q_cvl (pk_lRem (by omega) (by decide) (by decide)) ?_
            refine lv_ldc2 (v := 26) hx hb hown (hts (.constantLong RX10 54 (26)) (List.mem_of_getElem? (i := 2) rfl)) dX10_isWord_48 ?_
            refine q_cvl (show (26 : Int64) = lN 26 by decide) ?_
            refine W.lcmp hx hb dX10_isWord_51 ?_
            refine q_lc_gt (a := r % 32) (b := 26) (tgt := 59) hx hb dX10_isWord_52 (by decide) (by omega) (by omega) (fun c_52 => ?_) (fun c_52 => ?_)
            · skip
              refine lv_iconst (v := nI 0) hx hb dX10_isWord_59 (by decide) ?_
              exact hcut_60 0 _ _ _ _ ⟨(by omega), (by omega), rfl, rfl, (lv_sub hl [0, 1, 2] rfl), rfl⟩
            · skip
              refine lv_iconst (v := nI 1) hx hb dX10_isWord_55 (by decide) ?_
              refine lv_goto (tgt := 60) hx hb dX10_isWord_56 (by decide) ?_
              exact hcut_60 1 _ _ _ _ ⟨(by omega), (by omega), rfl, rfl, (lv_sub hl [0, 1, 2] rfl), rfl⟩
  · intro hcut_20
    refine W.lcmp hx hb dX10_isWord_2 ?_
    refine q_lz_le (a := a) (tgt := 19) hx hb dX10_isWord_3 (by decide) (by omega) (fun c_3 => ?_) (fun c_3 => ?_)
    · skip
      refine lv_iconst (v := nI 0) hx hb dX10_isWord_19 (by decide) ?_
      exact hcut_20 0 _ _ _ _ ⟨(by omega), (by omega), rfl, rfl, (lv_sub hl [0] rfl), rfl⟩
    · skip
      refine lv_lload_n hx hb dX10_isWord_6 rfl (lv_at hl 0 rfl) ?_
      refine vp_callSi (W.runS (As := [.long (lN a)]) (rest := []) ⟨hx, hb, hml, hown, hts⟩ (c_X10_lengthOf (l := l) (D := D) (a := a) (ha := by omega)) (va_cwS 1 hts gX10_isWord_X10_lengthOf rfl rfl rfl (by decide +kernel) ⟨Nat.le_of_ble_eq_true rfl, Nat.le_of_ble_eq_true rfl⟩) ⟨qP_blind, (qP_of (q_Pof (fun _ h => absurd h List.not_mem_nil)) (hK.sub (tys' := []) [] rfl) hNw)⟩ rfl rfl hl.1 rfl (lv_room (Nat.le_of_ble_eq_true rfl)) dX10_isWord_7 ⟨Nat.le_of_ble_eq_true rfl, Nat.le_of_ble_eq_true rfl⟩) (fun r_1 hr_1 => ?_)
      subst hr_1
      refine lv_bipush (v := nI 10) hx hb dX10_isWord_10 (by decide) ?_
      refine q_icmp_gt (a := wl a) (b := 10) (tgt := 19) hx hb dX10_isWord_12 (by decide) (by have := wl_13 (n := a) (by omega); omega) (by omega) (fun c_12 => ?_) (fun c_12 => ?_)
      · skip
        refine lv_iconst (v := nI 0) hx hb dX10_isWord_19 (by decide) ?_
        exact hcut_20 0 _ _ _ _ ⟨(by omega), (by omega), rfl, rfl, (lv_sub hl [0] rfl), rfl⟩
      · skip
        refine lv_iconst (v := nI 1) hx hb dX10_isWord_15 (by decide) ?_
        refine lv_goto (tgt := 20) hx hb dX10_isWord_16 (by decide) ?_
        exact hcut_20 1 _ _ _ _ ⟨(by omega), (by omega), rfl, rfl, (lv_sub hl [0] rfl), rfl⟩

set_option maxHeartbeats 4000000 in
set_option maxRecDepth 100000 in
/-- beginning -/
theorem c_X10_beginning (l : Launch) (D : va_G) (a : Nat) (k : Nat) (ha : a < 2 ^ 63) (hw : wl a ≤ 13) (hk : k < 2 ^ 31) : Met l yX10_beginning wsX10_beginning { frames := 1, cells := 0, slots := 0, locals := 24 } (va_Pc [.long (lN a), .int (nI k)] (qP D ([]) [])) (vp_Sl (fun rv : Int64 => rv = lN (beg a k))) 0 0 (fun _ => False) := by
  refine Met.ofW (cc := cX10_beginning) (maxL := 6) (ret := (some .long)) (by decide) rfl ?_
  intro pM eM s mi9 argsM belowM methM cM sM B hml hv
  obtain ⟨rfl, hR, hK, hNw⟩ := hv
  have hx := B.exec
  have hb := B.bytes
  have hr := B.returns
  have hts := atoms_spec (ws := wsX10_beginning) B.pre
  have hown : s.vm.findClass RX10 = some mi9.cls := findClass_of_methodNamed B.named
  have hlocks := B.notSynchronized
  have hS : va_S (fun _ => False) s.heap s.heap [] := va_S.rf
  have hR : va_P D vwCl ([]) s.heap := hR
  have hl := lv_entry ([.long (lN a), .int (nI k)]) (n := 6) (Nat.le_of_ble_eq_true rfl)
  rw [lg_entry_eq]
  generalize (lg_sl ([.long (lN a), .int (nI k)]) ++ List.replicate (6 - (lg_sl ([.long (lN a), .int (nI k)])).length) Slot.unset).toArray = ls at hl ⊢
  have hl : lv_has ls 6 [(0, .long (lN a)), (2, .int (nI k))] := hl
  refine lv_lload_n hx hb dX10_beginning_0 rfl (lv_at hl 0 rfl) ?_
  refine lv_lstore_n (lv' := [(3, .long (lN a)), (0, .long (lN a)), (2, .int (nI k))]) hx hb dX10_beginning_1 rfl hl (by decide) rfl (fun ls hl => ?_)
  refine lv_lload_n hx hb dX10_beginning_2 rfl (lv_at hl 1 rfl) ?_
  refine vp_callSi (W.runS (As := [.long (lN a)]) (rest := []) ⟨hx, hb, hml, hown, hts⟩ (c_X10_lengthOf (l := l) (D := D) (a := a) (ha := ha)) (va_cwS 1 hts gX10_beginning_X10_lengthOf rfl rfl rfl (by decide +kernel) ⟨Nat.le_of_ble_eq_true rfl, Nat.le_of_ble_eq_true rfl⟩) ⟨qP_blind, (qP_of (q_Pof (fun _ h => absurd h List.not_mem_nil)) (hK.sub (tys' := []) [] rfl) hNw)⟩ rfl rfl hl.1 rfl (lv_room (Nat.le_of_ble_eq_true rfl)) dX10_beginning_3 ⟨Nat.le_of_ble_eq_true rfl, Nat.le_of_ble_eq_true rfl⟩) (fun r_1 hr_1 => ?_)
  subst hr_1
  refine lv_istore (lv' := [(5, .int (nI (wl a))), (3, .long (lN a)), (0, .long (lN a)), (2, .int (nI k))]) hx hb dX10_beginning_6 hl (by decide) rfl (fun ls hl => ?_)
  refine q_loop (fun (x : (Nat) × (Nat)) (Hc : Heap) (Lc : List Loc) (ls : Array Slot) => match x with | (i, r) => (i ≤ wl a) ∧ (r = a / 32 ^ (wl a - i)) ∧ (r ≤ a) ∧ (i = wl a ∨ k ≤ i) ∧ s.heap = Hc ∧ [] = Lc ∧ lv_has ls 6 [(5, .int (nI i)), (3, .long (lN r)), (0, .long (lN a)), (2, .int (nI k))]) (fun (x : (Nat) × (Nat)) => match x with | (i, r) => i) (wl a, a) ⟨(by omega), (by rw [Nat.sub_self, Nat.pow_zero, Nat.div_one]), (by omega), (Or.inl rfl), rfl, rfl, (lv_sub hl [0, 1, 2, 3] rfl)⟩ ?_
  clear hl
  rintro ⟨i, r⟩ Hc Lc ls hI ih_8
  obtain ⟨hi, hre, hr2, hki, rfl, rfl, hl⟩ := hI
  refine lv_iload hx hb dX10_beginning_8 (lv_at hl 0 rfl) ?_
  refine lv_iload_n hx hb dX10_beginning_10 rfl (lv_at hl 3 rfl) ?_
  refine q_icmp_le (a := i) (b := k) (tgt := 26) hx hb dX10_beginning_11 (by decide) (by omega) (by omega) (fun c_11 => ?_) (fun c_11 => ?_)
  · skip
    refine lv_lload_n hx hb dX10_beginning_26 rfl (lv_at hl 1 rfl) ?_
    exact W.lret (v := lN r) hx hb hr (fun t9 ht _ => ⟨lN r, rfl, (by have e9 : wl a - i = wl a - k := (by omega); rw [hre, e9]; rfl), ht⟩) (fun _ h => absurd h List.not_mem_nil) dX10_beginning_27
  · skip
    refine lv_lload_n hx hb dX10_beginning_14 rfl (lv_at hl 1 rfl) ?_
    refine lv_ldc2 (v := 32) hx hb hown (hts (.constantLong RX10 48 (32)) (List.mem_of_getElem? (i := 1) rfl)) dX10_beginning_15 ?_
    refine q_cvl (show (32 : Int64) = lN 32 by decide) ?_
    refine lv_ldiv hx hb dX10_beginning_18 (by decide) ?_
    refine q_cvl (pk_lDiv (by omega) (by decide) (by decide)) ?_
    refine lv_lstore_n (lv' := [(3, .long (lN (r / 32))), (5, .int (nI i)), (0, .long (lN a)), (2, .int (nI k))]) hx hb dX10_beginning_19 rfl hl (by decide) rfl (fun ls hl => ?_)
    refine lv_iinc (v := nI (i - 1)) (lv' := [(5, .int (nI (i - 1))), (3, .long (lN (r / 32))), (0, .long (lN a)), (2, .int (nI k))]) hx hb dX10_beginning_20 hl (k := 1) rfl (by rw [show Int32.ofInt (-1) = -(nI 1) from by decide, ← Int32.sub_eq_add_neg, pk_sub (by omega)]; try (congr 1; omega)) (by decide) rfl (fun ls hl => ?_)
    refine lv_goto (tgt := 8) hx hb dX10_beginning_23 (by decide) ?_
    exact ih_8 (i - 1, r / 32) _ _ _ ⟨(by omega), (by rw [hre, Nat.div_div_eq_div_mul, ← Nat.pow_succ]; congr 2; omega), (by omega), (by omega), rfl, rfl, (lv_sub hl [0, 1, 2, 3] rfl)⟩ (by show (i - 1) < i; omega)

set_option maxHeartbeats 4000000 in
set_option maxRecDepth 100000 in
/-- isAhead -/
theorem c_X10_isAhead (l : Launch) (D : va_G) (a : Nat) (b : Nat) (ha : gw a) (hb9 : gw b) : Met l yX10_isAhead wsX10_isAhead { frames := 1, cells := 0, slots := 0, locals := 24 } (va_Pc [.long (lN a), .long (lN b)] (qP D ([]) [])) (vp_Si (fun rv : Int32 => rv = (if al a < al b then 1 else 0))) 0 0 (fun _ => False) := by
  refine Met.ofW (cc := cX10_isAhead) (maxL := 9) (ret := (some .boolean)) (by decide) rfl ?_
  intro pM eM s mi9 argsM belowM methM cM sM B hml hv
  obtain ⟨rfl, hR, hK, hNw⟩ := hv
  have hx := B.exec
  have hb := B.bytes
  have hr := B.returns
  have hts := atoms_spec (ws := wsX10_isAhead) B.pre
  have hown : s.vm.findClass RX10 = some mi9.cls := findClass_of_methodNamed B.named
  have hlocks := B.notSynchronized
  have hS : va_S (fun _ => False) s.heap s.heap [] := va_S.rf
  have hR : va_P D vwCl ([]) s.heap := hR
  have hl := lv_entry ([.long (lN a), .long (lN b)]) (n := 9) (Nat.le_of_ble_eq_true rfl)
  rw [lg_entry_eq]
  generalize (lg_sl ([.long (lN a), .long (lN b)]) ++ List.replicate (9 - (lg_sl ([.long (lN a), .long (lN b)])).length) Slot.unset).toArray = ls at hl ⊢
  have hl : lv_has ls 9 [(0, .long (lN a)), (2, .long (lN b))] := hl
  have hwa := gw_wl ha
  have hwb := gw_wl hb9
  have hla := gw_lt ha
  have hlb := gw_lt hb9
  have hma := al_lt hwa
  have hmb := al_lt hwb
  refine lv_lload_n hx hb dX10_isAhead_0 rfl (lv_at hl 0 rfl) ?_
  refine lv_lstore (lv' := [(4, .long (lN a)), (0, .long (lN a)), (2, .long (lN b))]) hx hb dX10_isAhead_1 hl (by decide) rfl (fun ls hl => ?_)
  refine lv_lload_n hx hb dX10_isAhead_3 rfl (lv_at hl 2 rfl) ?_
  refine lv_lstore (lv' := [(6, .long (lN b)), (4, .long (lN a)), (0, .long (lN a)), (2, .long (lN b))]) hx hb dX10_isAhead_4 hl (by decide) rfl (fun ls hl => ?_)
  refine lv_lload_n hx hb dX10_isAhead_6 rfl (lv_at hl 2 rfl) ?_
  refine vp_callSi (W.runS (As := [.long (lN a)]) (rest := []) ⟨hx, hb, hml, hown, hts⟩ (c_X10_lengthOf (l := l) (D := D) (a := a) (ha := by omega)) (va_cwS 1 hts gX10_isAhead_X10_lengthOf rfl rfl rfl (by decide +kernel) ⟨Nat.le_of_ble_eq_true rfl, Nat.le_of_ble_eq_true rfl⟩) ⟨qP_blind, (qP_of (q_Pof (fun _ h => absurd h List.not_mem_nil)) (hK.sub (tys' := []) [] rfl) hNw)⟩ rfl rfl hl.1 rfl (lv_room (Nat.le_of_ble_eq_true rfl)) dX10_isAhead_7 ⟨Nat.le_of_ble_eq_true rfl, Nat.le_of_ble_eq_true rfl⟩) (fun r_1 hr_1 => ?_)
  subst hr_1
  refine lv_istore (lv' := [(8, .int (nI (wl a))), (6, .long (lN b)), (4, .long (lN a)), (0, .long (lN a)), (2, .long (lN b))]) hx hb dX10_isAhead_10 hl (by decide) rfl (fun ls hl => ?_)
  refine q_loop (fun (x : (Nat) × (Nat)) (Hc : Heap) (Lc : List Loc) (ls : Array Slot) => match x with | (i, u) => (wl a ≤ i ∧ i ≤ 10) ∧ (u * 32 ^ (10 - i) = al a) ∧ s.heap = Hc ∧ [] = Lc ∧ lv_has ls 9 [(8, .int (nI i)), (6, .long (lN b)), (4, .long (lN u)), (0, .long (lN a)), (2, .long (lN b))]) (fun (x : (Nat) × (Nat)) => match x with | (i, u) => 10 - i) (wl a, a) ⟨(by omega), rfl, rfl, rfl, (lv_sub hl [0, 1, 2, 3, 4] rfl)⟩ ?_
  clear hl
  rintro ⟨i, u⟩ Hc Lc ls hI ih_12
  obtain ⟨hi, hu, rfl, rfl, hl⟩ := hI
  refine lv_iload hx hb dX10_isAhead_12 (lv_at hl 0 rfl) ?_
  refine lv_bipush (v := nI 10) hx hb dX10_isAhead_14 (by decide) ?_
  refine q_icmp_ge (a := i) (b := 10) (tgt := 33) hx hb dX10_isAhead_16 (by decide) (by omega) (by omega) (fun c_16 => ?_) (fun c_16 => ?_)
  · skip
    refine lv_lload_n hx hb dX10_isAhead_33 rfl (lv_at hl 4 rfl) ?_
    refine vp_callSi (W.runS (As := [.long (lN b)]) (rest := []) ⟨hx, hb, hml, hown, hts⟩ (c_X10_lengthOf (l := l) (D := D) (a := b) (ha := by omega)) (va_cwS 1 hts gX10_isAhead_X10_lengthOf rfl rfl rfl (by decide +kernel) ⟨Nat.le_of_ble_eq_true rfl, Nat.le_of_ble_eq_true rfl⟩) ⟨qP_blind, (qP_of (q_Pof (fun _ h => absurd h List.not_mem_nil)) (hK.sub (tys' := []) [] rfl) hNw)⟩ rfl rfl hl.1 rfl (lv_room (Nat.le_of_ble_eq_true rfl)) dX10_isAhead_34 ⟨Nat.le_of_ble_eq_true rfl, Nat.le_of_ble_eq_true rfl⟩) (fun r_2 hr_2 => ?_)
    subst hr_2
    refine lv_istore (lv' := [(8, .int (nI (wl b))), (6, .long (lN b)), (4, .long (lN u)), (0, .long (lN a)), (2, .long (lN b))]) hx hb dX10_isAhead_37 hl (by decide) rfl (fun ls hl => ?_)
    refine q_loop (fun (x : (Nat) × (Nat)) (Hc : Heap) (Lc : List Loc) (ls : Array Slot) => match x with | (j, v) => (wl b ≤ j ∧ j ≤ 10) ∧ (v * 32 ^ (10 - j) = al b) ∧ s.heap = Hc ∧ [] = Lc ∧ lv_has ls 9 [(8, .int (nI j)), (6, .long (lN v)), (4, .long (lN u)), (0, .long (lN a)), (2, .long (lN b))]) (fun (x : (Nat) × (Nat)) => match x with | (j, v) => 10 - j) (wl b, b) ⟨(by omega), rfl, rfl, rfl, (lv_sub hl [0, 1, 2, 3, 4] rfl)⟩ ?_
    clear hl
    rintro ⟨j, v⟩ Hc Lc ls hI ih_39
    obtain ⟨hj, hv9, rfl, rfl, hl⟩ := hI
    refine lv_iload hx hb dX10_isAhead_39 (lv_at hl 0 rfl) ?_
    refine lv_bipush (v := nI 10) hx hb dX10_isAhead_41 (by decide) ?_
    refine q_icmp_ge (a := j) (b := 10) (tgt := 60) hx hb dX10_isAhead_43 (by decide) (by omega) (by omega) (fun c_43 => ?_) (fun c_43 => ?_)
    · skip
      have eu : u = al a := by rw [← hu, show 10 - i = 0 by omega, Nat.pow_zero, Nat.mul_one]
      have ev : v = al b := by rw [← hv9, show 10 - j = 0 by omega, Nat.pow_zero, Nat.mul_one]
      refine lv_lload hx hb dX10_isAhead_60 (lv_at hl 2 rfl) ?_
      refine lv_lload hx hb dX10_isAhead_62 (lv_at hl 1 rfl) ?_
      refine W.lcmp hx hb dX10_isAhead_64 ?_
      refine q_lc_ge (a := u) (b := v) (tgt := 72) hx hb dX10_isAhead_65 (by decide) (by omega) (by omega) (fun c_65 => ?_) (fun c_65 => ?_)
      · skip
        refine lv_iconst (v := nI 0) hx hb dX10_isAhead_72 (by decide) ?_
        exact W.zret (v := nI 0) hx hb hr (by decide) (fun t9 ht _ => ⟨nI 0, rfl, (if_neg (by omega)).symm, ht⟩) (fun _ h => absurd h List.not_mem_nil) dX10_isAhead_73
      · skip
        refine lv_iconst (v := nI 1) hx hb dX10_isAhead_68 (by decide) ?_
        refine lv_goto (tgt := 73) hx hb dX10_isAhead_69 (by decide) ?_
        exact W.zret (v := nI 1) hx hb hr (by decide) (fun t9 ht _ => ⟨nI 1, rfl, (if_pos (by omega)).symm, ht⟩) (fun _ h => absurd h List.not_mem_nil) dX10_isAhead_73
    · skip
      refine lv_lload hx hb dX10_isAhead_46 (lv_at hl 1 rfl) ?_
      refine lv_ldc2 (v := 32) hx hb hown (hts (.constantLong RX10 48 (32)) (List.mem_of_getElem? (i := 1) rfl)) dX10_isAhead_48 ?_
      refine q_cvl (show (32 : Int64) = lN 32 by decide) ?_
      refine lv_lmul hx hb dX10_isAhead_51 ?_
      refine q_cvl ((lN_mul _ _).trans (congrArg lN (show _ = 32 * v by omega))) ?_
      refine lv_lstore (lv' := [(6, .long (lN (32 * v))), (8, .int (nI j)), (4, .long (lN u)), (0, .long (lN a)), (2, .long (lN b))]) hx hb dX10_isAhead_52 hl (by decide) rfl (fun ls hl => ?_)
      refine lv_iinc (v := nI (j + 1)) (lv' := [(8, .int (nI (j + 1))), (6, .long (lN (32 * v))), (4, .long (lN u)), (0, .long (lN a)), (2, .long (lN b))]) hx hb dX10_isAhead_54 hl (k := 1) rfl (q_inc (k := 1) (by omega)) (by decide) rfl (fun ls hl => ?_)
      refine lv_goto (tgt := 39) hx hb dX10_isAhead_57 (by decide) ?_
      exact ih_39 (j + 1, 32 * v) _ _ _ ⟨(by omega), (by rw [← hv9, show 10 - j = (10 - (j + 1)) + 1 by omega, Nat.pow_succ, Nat.mul_comm 32 v, Nat.mul_assoc, Nat.mul_comm 32]), rfl, rfl, (lv_sub hl [0, 1, 2, 3, 4] rfl)⟩ (by show 10 - (j + 1) < 10 - j; omega)
  · skip
    refine lv_lload hx hb dX10_isAhead_19 (lv_at hl 2 rfl) ?_
    refine lv_ldc2 (v := 32) hx hb hown (hts (.constantLong RX10 48 (32)) (List.mem_of_getElem? (i := 1) rfl)) dX10_isAhead_21 ?_
    refine q_cvl (show (32 : Int64) = lN 32 by decide) ?_
    refine lv_lmul hx hb dX10_isAhead_24 ?_
    refine q_cvl ((lN_mul _ _).trans (congrArg lN (show _ = 32 * u by omega))) ?_
    refine lv_lstore (lv' := [(4, .long (lN (32 * u))), (8, .int (nI i)), (6, .long (lN b)), (0, .long (lN a)), (2, .long (lN b))]) hx hb dX10_isAhead_25 hl (by decide) rfl (fun ls hl => ?_)
    refine lv_iinc (v := nI (i + 1)) (lv' := [(8, .int (nI (i + 1))), (4, .long (lN (32 * u))), (6, .long (lN b)), (0, .long (lN a)), (2, .long (lN b))]) hx hb dX10_isAhead_27 hl (k := 1) rfl (q_inc (k := 1) (by omega)) (by decide) rfl (fun ls hl => ?_)
    refine lv_goto (tgt := 12) hx hb dX10_isAhead_30 (by decide) ?_
    exact ih_12 (i + 1, 32 * u) _ _ _ ⟨(by omega), (by rw [← hu, show 10 - i = (10 - (i + 1)) + 1 by omega, Nat.pow_succ, Nat.mul_comm 32 u, Nat.mul_assoc, Nat.mul_comm 32]), rfl, rfl, (lv_sub hl [0, 2, 1, 3, 4] rfl)⟩ (by show 10 - (i + 1) < 10 - i; omega)

set_option maxRecDepth 20000 in
theorem iX10_layOne_X10 : ∀ w ∈ wsX100, w ∈ wsX10_layOne := by decide +kernel
set_option maxHeartbeats 4000000 in
set_option maxRecDepth 100000 in
/-- X10_layOne -/
theorem c_X10_layOne (l : Launch) (D : va_G) (sz : Nat) (mo : Nat) (mw : Nat) (mct : Nat) (mp : Nat) (mnm : Nat) (m1 : Nat) (m2 : Nat) (mt : Nat) (mk : Nat) (mr : Nat) (ml : Nat) (mq : Nat) (k5 : ClassId) (th : Int32) (n : Nat) (om : Int32) (tm : Int32) (f1 : Nat → Int32) (a : Nat) (hnd : ([mo, m1] ++ []).Nodup) (ha : a < 2 ^ 63) (hw : wl a ≤ 10) : Met l yX10_layOne wsX10_layOne { frames := 1, cells := 0, slots := 0, locals := 24 } (va_Pc [.ref mo, .long (lN a)] (qW D sz ([]) [(mo, .inr (9, [.int th, .int (nI n), .ref mw, .ref mct, .ref mp, .ref mnm, .ref m1, .ref m2, .int om, .int tm, .ref mt, .ref mk, .ref mr, .ref ml, .ref mq])), (m1, .inl (k5, 11, .inl f1))] [(k5, .int)])) (va_Qv (fun (uv : (Nat → Int32)) => ∀ j, j < wl a → uv (j + 1) = nI (ltz a j)) (fun (uv : (Nat → Int32)) (tv : State) => va_P D vwCl [(mo, .inr (9, [.int th, .int (nI n), .ref mw, .ref mct, .ref mp, .ref mnm, .ref m1, .ref m2, .int (nI (wl a)), .int tm, .ref mt, .ref mk, .ref mr, .ref ml, .ref mq])), (m1, .inl (k5, 11, .inl uv))] tv.heap) (va_A [(mo, .inr (9, [.int th, .int (nI n), .ref mw, .ref mct, .ref mp, .ref mnm, .ref m1, .ref m2, .int om, .int tm, .ref mt, .ref mk, .ref mr, .ref ml, .ref mq])), (m1, .inl (k5, 11, .inl f1))] sz)) 0 0 (va_A [(mo, .inr (9, [.int th, .int (nI n), .ref mw, .ref mct, .ref mp, .ref mnm, .ref m1, .ref m2, .int om, .int tm, .ref mt, .ref mk, .ref mr, .ref ml, .ref mq])), (m1, .inl (k5, 11, .inl f1))] sz) := by
  refine Met.ofW (cc := cX10_layOne) (maxL := 6) (ret := none) (by decide) rfl ?_
  intro pM eM s mi9 argsM belowM methM cM sM B hml hv
  obtain ⟨rfl, hsz, hR0, hP, hK, hNw⟩ := hv
  have hx := B.exec
  have hb := B.bytes
  have hr := B.returns
  have hts := atoms_spec (ws := wsX10_layOne) B.pre
  have hown : s.vm.findClass RX10 = some mi9.cls := findClass_of_methodNamed B.named
  have hlocks := B.notSynchronized
  subst hsz
  have hna := q_na (RW := [(mo, .inr (9, [.int th, .int (nI n), .ref mw, .ref mct, .ref mp, .ref mnm, .ref m1, .ref m2, .int om, .int tm, .ref mt, .ref mk, .ref mr, .ref ml, .ref mq])), (m1, .inl (k5, 11, .inl f1))]) (RO := []) hnd rfl rfl hR0
  have hD := q_D (RW := [(mo, .inr (9, [.int th, .int (nI n), .ref mw, .ref mct, .ref mp, .ref mnm, .ref m1, .ref m2, .int om, .int tm, .ref mt, .ref mk, .ref mr, .ref ml, .ref mq])), (m1, .inl (k5, 11, .inl f1))]) (sz := s.heap.size) hnd rfl
  have hA : ∀ q : Nat, s.heap.size ≤ q → va_A [(mo, .inr (9, [.int th, .int (nI n), .ref mw, .ref mct, .ref mp, .ref mnm, .ref m1, .ref m2, .int om, .int tm, .ref mt, .ref mk, .ref mr, .ref ml, .ref mq])), (m1, .inl (k5, 11, .inl f1))] s.heap.size q := fun q h => Or.inr h
  generalize hAe : va_A [(mo, .inr (9, [.int th, .int (nI n), .ref mw, .ref mct, .ref mp, .ref mnm, .ref m1, .ref m2, .int om, .int tm, .ref mt, .ref mk, .ref mr, .ref ml, .ref mq])), (m1, .inl (k5, 11, .inl f1))] s.heap.size = A at hna hD hA ⊢
  have hS : va_S A s.heap s.heap [] := va_S.rf
  have hR := hR0
  have hP : va_P D vwCl [(mo, .inr (9, [.int th, .int (nI n), .ref mw, .ref mct, .ref mp, .ref mnm, .ref m1, .ref m2, .int om, .int tm, .ref mt, .ref mk, .ref mr, .ref ml, .ref mq])), (m1, .inl (k5, 11, .inl f1))] s.heap := hP
  have hl := lv_entry ([.ref mo, .long (lN a)]) (n := 6) (Nat.le_of_ble_eq_true rfl)
  rw [lg_entry_eq]
  generalize (lg_sl ([.ref mo, .long (lN a)]) ++ List.replicate (6 - (lg_sl ([.ref mo, .long (lN a)])).length) Slot.unset).toArray = ls at hl ⊢
  have hl : lv_has ls 6 [(0, .ref mo), (1, .long (lN a))] := hl
  refine lv_aload_n hx hb dX10_layOne_0 rfl (lv_at hl 0 rfl) ?_
  refine lv_lload_n hx hb dX10_layOne_1 rfl (lv_at hl 1 rfl) ?_
  refine vp_callSi (W.runS (As := [.long (lN a)]) (rest := [.ref mo]) ⟨hx, hb, hml, hown, hts⟩ (c_X10_lengthOf (l := l) (D := D) (a := a) (ha := ha)) (va_cwS 1 hts gX10_layOne_X10_lengthOf rfl rfl rfl (by decide +kernel) ⟨Nat.le_of_ble_eq_true rfl, Nat.le_of_ble_eq_true rfl⟩) ⟨qP_blind, (qP_of (q_Pof (fun _ h => absurd h List.not_mem_nil)) (hK.sub (tys' := []) [] rfl) hNw)⟩ rfl rfl hl.1 rfl (lv_room (Nat.le_of_ble_eq_true rfl)) dX10_layOne_2 ⟨Nat.le_of_ble_eq_true rfl, Nat.le_of_ble_eq_true rfl⟩) (fun r_1 hr_1 => ?_)
  subst hr_1
  refine va_put (D := D) (ci := 9) (v := .int (nI (wl a))) (ty := .int) (C := RX10) (T := TX10) (N := 15) hx hb hts iX10_layOne_X10 tyX10 tyX10_ok nmX10 hown hK hP hD hS 0 rfl rfl 8 (by decide) (hts (.fieldLink RX10 56 "FuzzyFensModel" "oneMany" "I") (List.mem_of_getElem? (i := 1) rfl)) (fun _ h9 => h9) rfl (by decide +kernel) rfl rfl (Nat.le_of_ble_eq_true rfl) dX10_layOne_5 (fun H_2 locs_3 hP hD hS => ?_)
  have hP : va_P D vwCl [(mo, .inr (9, [.int th, .int (nI n), .ref mw, .ref mct, .ref mp, .ref mnm, .ref m1, .ref m2, .int (nI (wl a)), .int tm, .ref mt, .ref mk, .ref mr, .ref ml, .ref mq])), (m1, .inl (k5, 11, .inl f1))] H_2 := hP
  have hD : va_D A [(mo, .inr (9, [.int th, .int (nI n), .ref mw, .ref mct, .ref mp, .ref mnm, .ref m1, .ref m2, .int (nI (wl a)), .int tm, .ref mt, .ref mk, .ref mr, .ref ml, .ref mq])), (m1, .inl (k5, 11, .inl f1))] := hD
  have hR := q_ro hR0 hna hS
  refine lv_lload_n hx hb dX10_layOne_8 rfl (lv_at hl 1 rfl) ?_
  refine lv_lstore_n (lv' := [(3, .long (lN a)), (0, .ref mo), (1, .long (lN a))]) hx hb dX10_layOne_9 rfl hl (by decide) rfl (fun ls hl => ?_)
  refine lv_aload_n hx hb dX10_layOne_10 rfl (lv_at hl 1 rfl) ?_
  refine va_get (D := D) (own := RX10) (ref := "FuzzyFensModel") (ci := 9) (v := .int (nI (wl a))) (C := RX10) (T := TX10) (N := 15) hx hb hts iX10_layOne_X10 hown hK hP 0 rfl rfl 8 (by decide) (hts (.fieldLink RX10 56 "FuzzyFensModel" "oneMany" "I") (List.mem_of_getElem? (i := 1) rfl)) (fun _ h9 => h9) rfl dX10_layOne_11 ?_
  refine lv_istore (lv' := [(5, .int (nI (wl a))), (3, .long (lN a)), (0, .ref mo), (1, .long (lN a))]) hx hb dX10_layOne_14 hl (by decide) rfl (fun ls hl => ?_)
  refine q_loop (fun (x : (Nat) × (Nat) × (Nat → Int32)) (H : Heap) (locs : List Loc) (ls : Array Slot) => match x with | (i, r, g1) => (i ≤ wl a) ∧ (r = a / 32 ^ (wl a - i)) ∧ (r ≤ a) ∧ (∀ j, i ≤ j → j < wl a → g1 (j + 1) = nI (ltz a j)) ∧ va_P D vwCl [(mo, .inr (9, [.int th, .int (nI n), .ref mw, .ref mct, .ref mp, .ref mnm, .ref m1, .ref m2, .int (nI (wl a)), .int tm, .ref mt, .ref mk, .ref mr, .ref ml, .ref mq])), (m1, .inl (k5, 11, .inl g1))] H ∧ va_D A [(mo, .inr (9, [.int th, .int (nI n), .ref mw, .ref mct, .ref mp, .ref mnm, .ref m1, .ref m2, .int (nI (wl a)), .int tm, .ref mt, .ref mk, .ref mr, .ref ml, .ref mq])), (m1, .inl (k5, 11, .inl g1))] ∧ va_S A s.heap H locs ∧ lv_has ls 6 [(5, .int (nI i)), (3, .long (lN r)), (0, .ref mo), (1, .long (lN a))]) (fun (x : (Nat) × (Nat) × (Nat → Int32)) => match x with | (i, r, g1) => i) (wl a, a, f1) ⟨(by omega), (by rw [Nat.sub_self, Nat.pow_zero, Nat.div_one]), (by omega), (fun j h1 h2 => by omega), hP, hD, hS, (lv_sub hl [0, 1, 2, 3] rfl)⟩ ?_
  clear hl
  clear hP hD hS
  rintro ⟨i, r, g1⟩ H locs ls hI ih_16
  obtain ⟨hi, hre, hr2, hg1, hP, hD, hS, hl⟩ := hI
  have hR := q_ro hR0 hna hS
  refine lv_iload hx hb dX10_layOne_16 (lv_at hl 0 rfl) ?_
  refine q_if_le (a := i) (tgt := 46) hx hb dX10_layOne_18 (by decide) (by omega) (fun c_18 => ?_) (fun c_18 => ?_)
  · skip
    exact W.vret hx hb hr (fun t9 ht hW => ⟨⟨g1, rfl, (fun j hj => hg1 j (by omega) hj), by show va_P D vwCl _ t9.heap; rw [ht]; exact hP⟩, hS.F ht⟩) hS.2.2 dX10_layOne_46
  · skip
    refine lv_aload_n hx hb dX10_layOne_21 rfl (lv_at hl 2 rfl) ?_
    refine va_get (D := D) (own := RX10) (ref := "FuzzyFensModel") (ci := 9) (v := .ref m1) (C := RX10) (T := TX10) (N := 15) hx hb hts iX10_layOne_X10 hown hK hP 0 rfl rfl 6 (by decide) (hts (.fieldLink RX10 23 "FuzzyFensModel" "one" "[I") (List.mem_of_getElem? (i := 2) rfl)) (fun _ h9 => h9) rfl dX10_layOne_22 ?_
    refine lv_iload hx hb dX10_layOne_25 (lv_at hl 0 rfl) ?_
    refine lv_lload_n hx hb dX10_layOne_27 rfl (lv_at hl 1 rfl) ?_
    refine lv_ldc2 (v := 32) hx hb hown (hts (.constantLong RX10 48 (32)) (List.mem_of_getElem? (i := 3) rfl)) dX10_layOne_28 ?_
    refine q_cvl (show (32 : Int64) = lN 32 by decide) ?_
    refine lv_lrem hx hb dX10_layOne_31 (by decide) ?_
    refine q_cvl (pk_lRem (by omega) (by decide) (by decide)) ?_
    refine lv_l2i (v := nI (r % 32)) hx hb dX10_layOne_32 (lN_i _) ?_
    refine va_iast (D := D) hx hb hK hP hD hS 1 0 rfl rfl (vp_in_nI (n := i) (N := 11) (by omega) (by decide)) dX10_layOne_33 (fun H_4 locs_5 hP hD hS => ?_)
    rw [nI_clamp (n := i) (by omega)] at hP hD
    have hP : va_P D vwCl [(mo, .inr (9, [.int th, .int (nI n), .ref mw, .ref mct, .ref mp, .ref mnm, .ref m1, .ref m2, .int (nI (wl a)), .int tm, .ref mt, .ref mk, .ref mr, .ref ml, .ref mq])), (m1, .inl (k5, 11, .inl (upd g1 i (nI (r % 32)))))] H_4 := hP
    have hD : va_D A [(mo, .inr (9, [.int th, .int (nI n), .ref mw, .ref mct, .ref mp, .ref mnm, .ref m1, .ref m2, .int (nI (wl a)), .int tm, .ref mt, .ref mk, .ref mr, .ref ml, .ref mq])), (m1, .inl (k5, 11, .inl (upd g1 i (nI (r % 32)))))] := hD
    have hR := q_ro hR0 hna hS
    refine lv_lload_n hx hb dX10_layOne_34 rfl (lv_at hl 1 rfl) ?_
    refine lv_ldc2 (v := 32) hx hb hown (hts (.constantLong RX10 48 (32)) (List.mem_of_getElem? (i := 3) rfl)) dX10_layOne_35 ?_
    refine q_cvl (show (32 : Int64) = lN 32 by decide) ?_
    refine lv_ldiv hx hb dX10_layOne_38 (by decide) ?_
    refine q_cvl (pk_lDiv (by omega) (by decide) (by decide)) ?_
    refine lv_lstore_n (lv' := [(3, .long (lN (r / 32))), (5, .int (nI i)), (0, .ref mo), (1, .long (lN a))]) hx hb dX10_layOne_39 rfl hl (by decide) rfl (fun ls hl => ?_)
    refine lv_iinc (v := nI (i - 1)) (lv' := [(5, .int (nI (i - 1))), (3, .long (lN (r / 32))), (0, .ref mo), (1, .long (lN a))]) hx hb dX10_layOne_40 hl (k := 1) rfl (by rw [show Int32.ofInt (-1) = -(nI 1) from by decide, ← Int32.sub_eq_add_neg, pk_sub (by omega)]; try (congr 1; omega)) (by decide) rfl (fun ls hl => ?_)
    refine lv_goto (tgt := 16) hx hb dX10_layOne_43 (by decide) ?_
    exact ih_16 (i - 1, r / 32, upd g1 i (nI (r % 32))) _ _ _ ⟨(by omega), (by have e7 := lay_s (a := a) (i := i - 1) (r := r) (by omega) (by rw [show i - 1 + 1 = i by omega]; exact hre); exact e7), (by omega), (fun j h1 h2 => by by_cases e : j + 1 = i; (rw [e, pk_us]; congr 1; have e8 := lay_dg (a := a) (i := j) (r := r) h2 (by rw [e]; exact hre); exact e8); (rw [pk_un e]; exact hg1 j (by omega) h2)), hP, hD, hS, (lv_sub hl [0, 1, 2, 3] rfl)⟩ (by show (i - 1) < i; omega)

set_option maxRecDepth 20000 in
theorem iX10_layOther_X10 : ∀ w ∈ wsX100, w ∈ wsX10_layOther := by decide +kernel
set_option maxHeartbeats 4000000 in
set_option maxRecDepth 100000 in
/-- X10_layOther -/
theorem c_X10_layOther (l : Launch) (D : va_G) (sz : Nat) (mo : Nat) (mw : Nat) (mct : Nat) (mp : Nat) (mnm : Nat) (m1 : Nat) (m2 : Nat) (mt : Nat) (mk : Nat) (mr : Nat) (ml : Nat) (mq : Nat) (k6 : ClassId) (th : Int32) (n : Nat) (om : Int32) (tm : Int32) (f2 : Nat → Int32) (a : Nat) (hnd : ([mo, m2] ++ []).Nodup) (ha : a < 2 ^ 63) (hw : wl a ≤ 10) : Met l yX10_layOther wsX10_layOther { frames := 1, cells := 0, slots := 0, locals := 24 } (va_Pc [.ref mo, .long (lN a)] (qW D sz ([]) [(mo, .inr (9, [.int th, .int (nI n), .ref mw, .ref mct, .ref mp, .ref mnm, .ref m1, .ref m2, .int om, .int tm, .ref mt, .ref mk, .ref mr, .ref ml, .ref mq])), (m2, .inl (k6, 11, .inl f2))] [(k6, .int)])) (va_Qv (fun (uv : (Nat → Int32)) => ∀ j, j < wl a → uv (j + 1) = nI (ltz a j)) (fun (uv : (Nat → Int32)) (tv : State) => va_P D vwCl [(mo, .inr (9, [.int th, .int (nI n), .ref mw, .ref mct, .ref mp, .ref mnm, .ref m1, .ref m2, .int om, .int (nI (wl a)), .ref mt, .ref mk, .ref mr, .ref ml, .ref mq])), (m2, .inl (k6, 11, .inl uv))] tv.heap) (va_A [(mo, .inr (9, [.int th, .int (nI n), .ref mw, .ref mct, .ref mp, .ref mnm, .ref m1, .ref m2, .int om, .int tm, .ref mt, .ref mk, .ref mr, .ref ml, .ref mq])), (m2, .inl (k6, 11, .inl f2))] sz)) 0 0 (va_A [(mo, .inr (9, [.int th, .int (nI n), .ref mw, .ref mct, .ref mp, .ref mnm, .ref m1, .ref m2, .int om, .int tm, .ref mt, .ref mk, .ref mr, .ref ml, .ref mq])), (m2, .inl (k6, 11, .inl f2))] sz) := by
  refine Met.ofW (cc := cX10_layOther) (maxL := 6) (ret := none) (by decide) rfl ?_
  intro pM eM s mi9 argsM belowM methM cM sM B hml hv
  obtain ⟨rfl, hsz, hR0, hP, hK, hNw⟩ := hv
  have hx := B.exec
  have hb := B.bytes
  have hr := B.returns
  have hts := atoms_spec (ws := wsX10_layOther) B.pre
  have hown : s.vm.findClass RX10 = some mi9.cls := findClass_of_methodNamed B.named
  have hlocks := B.notSynchronized
  subst hsz
  have hna := q_na (RW := [(mo, .inr (9, [.int th, .int (nI n), .ref mw, .ref mct, .ref mp, .ref mnm, .ref m1, .ref m2, .int om, .int tm, .ref mt, .ref mk, .ref mr, .ref ml, .ref mq])), (m2, .inl (k6, 11, .inl f2))]) (RO := []) hnd rfl rfl hR0
  have hD := q_D (RW := [(mo, .inr (9, [.int th, .int (nI n), .ref mw, .ref mct, .ref mp, .ref mnm, .ref m1, .ref m2, .int om, .int tm, .ref mt, .ref mk, .ref mr, .ref ml, .ref mq])), (m2, .inl (k6, 11, .inl f2))]) (sz := s.heap.size) hnd rfl
  have hA : ∀ q : Nat, s.heap.size ≤ q → va_A [(mo, .inr (9, [.int th, .int (nI n), .ref mw, .ref mct, .ref mp, .ref mnm, .ref m1, .ref m2, .int om, .int tm, .ref mt, .ref mk, .ref mr, .ref ml, .ref mq])), (m2, .inl (k6, 11, .inl f2))] s.heap.size q := fun q h => Or.inr h
  generalize hAe : va_A [(mo, .inr (9, [.int th, .int (nI n), .ref mw, .ref mct, .ref mp, .ref mnm, .ref m1, .ref m2, .int om, .int tm, .ref mt, .ref mk, .ref mr, .ref ml, .ref mq])), (m2, .inl (k6, 11, .inl f2))] s.heap.size = A at hna hD hA ⊢
  have hS : va_S A s.heap s.heap [] := va_S.rf
  have hR := hR0
  have hP : va_P D vwCl [(mo, .inr (9, [.int th, .int (nI n), .ref mw, .ref mct, .ref mp, .ref mnm, .ref m1, .ref m2, .int om, .int tm, .ref mt, .ref mk, .ref mr, .ref ml, .ref mq])), (m2, .inl (k6, 11, .inl f2))] s.heap := hP
  have hl := lv_entry ([.ref mo, .long (lN a)]) (n := 6) (Nat.le_of_ble_eq_true rfl)
  rw [lg_entry_eq]
  generalize (lg_sl ([.ref mo, .long (lN a)]) ++ List.replicate (6 - (lg_sl ([.ref mo, .long (lN a)])).length) Slot.unset).toArray = ls at hl ⊢
  have hl : lv_has ls 6 [(0, .ref mo), (1, .long (lN a))] := hl
  refine lv_aload_n hx hb dX10_layOther_0 rfl (lv_at hl 0 rfl) ?_
  refine lv_lload_n hx hb dX10_layOther_1 rfl (lv_at hl 1 rfl) ?_
  refine vp_callSi (W.runS (As := [.long (lN a)]) (rest := [.ref mo]) ⟨hx, hb, hml, hown, hts⟩ (c_X10_lengthOf (l := l) (D := D) (a := a) (ha := ha)) (va_cwS 1 hts gX10_layOther_X10_lengthOf rfl rfl rfl (by decide +kernel) ⟨Nat.le_of_ble_eq_true rfl, Nat.le_of_ble_eq_true rfl⟩) ⟨qP_blind, (qP_of (q_Pof (fun _ h => absurd h List.not_mem_nil)) (hK.sub (tys' := []) [] rfl) hNw)⟩ rfl rfl hl.1 rfl (lv_room (Nat.le_of_ble_eq_true rfl)) dX10_layOther_2 ⟨Nat.le_of_ble_eq_true rfl, Nat.le_of_ble_eq_true rfl⟩) (fun r_1 hr_1 => ?_)
  subst hr_1
  refine va_put (D := D) (ci := 9) (v := .int (nI (wl a))) (ty := .int) (C := RX10) (T := TX10) (N := 15) hx hb hts iX10_layOther_X10 tyX10 tyX10_ok nmX10 hown hK hP hD hS 0 rfl rfl 9 (by decide) (hts (.fieldLink RX10 59 "FuzzyFensModel" "otherMany" "I") (List.mem_of_getElem? (i := 1) rfl)) (fun _ h9 => h9) rfl (by decide +kernel) rfl rfl (Nat.le_of_ble_eq_true rfl) dX10_layOther_5 (fun H_2 locs_3 hP hD hS => ?_)
  have hP : va_P D vwCl [(mo, .inr (9, [.int th, .int (nI n), .ref mw, .ref mct, .ref mp, .ref mnm, .ref m1, .ref m2, .int om, .int (nI (wl a)), .ref mt, .ref mk, .ref mr, .ref ml, .ref mq])), (m2, .inl (k6, 11, .inl f2))] H_2 := hP
  have hD : va_D A [(mo, .inr (9, [.int th, .int (nI n), .ref mw, .ref mct, .ref mp, .ref mnm, .ref m1, .ref m2, .int om, .int (nI (wl a)), .ref mt, .ref mk, .ref mr, .ref ml, .ref mq])), (m2, .inl (k6, 11, .inl f2))] := hD
  have hR := q_ro hR0 hna hS
  refine lv_lload_n hx hb dX10_layOther_8 rfl (lv_at hl 1 rfl) ?_
  refine lv_lstore_n (lv' := [(3, .long (lN a)), (0, .ref mo), (1, .long (lN a))]) hx hb dX10_layOther_9 rfl hl (by decide) rfl (fun ls hl => ?_)
  refine lv_aload_n hx hb dX10_layOther_10 rfl (lv_at hl 1 rfl) ?_
  refine va_get (D := D) (own := RX10) (ref := "FuzzyFensModel") (ci := 9) (v := .int (nI (wl a))) (C := RX10) (T := TX10) (N := 15) hx hb hts iX10_layOther_X10 hown hK hP 0 rfl rfl 9 (by decide) (hts (.fieldLink RX10 59 "FuzzyFensModel" "otherMany" "I") (List.mem_of_getElem? (i := 1) rfl)) (fun _ h9 => h9) rfl dX10_layOther_11 ?_
  refine lv_istore (lv' := [(5, .int (nI (wl a))), (3, .long (lN a)), (0, .ref mo), (1, .long (lN a))]) hx hb dX10_layOther_14 hl (by decide) rfl (fun ls hl => ?_)
  refine q_loop (fun (x : (Nat) × (Nat) × (Nat → Int32)) (H : Heap) (locs : List Loc) (ls : Array Slot) => match x with | (i, r, g1) => (i ≤ wl a) ∧ (r = a / 32 ^ (wl a - i)) ∧ (r ≤ a) ∧ (∀ j, i ≤ j → j < wl a → g1 (j + 1) = nI (ltz a j)) ∧ va_P D vwCl [(mo, .inr (9, [.int th, .int (nI n), .ref mw, .ref mct, .ref mp, .ref mnm, .ref m1, .ref m2, .int om, .int (nI (wl a)), .ref mt, .ref mk, .ref mr, .ref ml, .ref mq])), (m2, .inl (k6, 11, .inl g1))] H ∧ va_D A [(mo, .inr (9, [.int th, .int (nI n), .ref mw, .ref mct, .ref mp, .ref mnm, .ref m1, .ref m2, .int om, .int (nI (wl a)), .ref mt, .ref mk, .ref mr, .ref ml, .ref mq])), (m2, .inl (k6, 11, .inl g1))] ∧ va_S A s.heap H locs ∧ lv_has ls 6 [(5, .int (nI i)), (3, .long (lN r)), (0, .ref mo), (1, .long (lN a))]) (fun (x : (Nat) × (Nat) × (Nat → Int32)) => match x with | (i, r, g1) => i) (wl a, a, f2) ⟨(by omega), (by rw [Nat.sub_self, Nat.pow_zero, Nat.div_one]), (by omega), (fun j h1 h2 => by omega), hP, hD, hS, (lv_sub hl [0, 1, 2, 3] rfl)⟩ ?_
  clear hl
  clear hP hD hS
  rintro ⟨i, r, g1⟩ H locs ls hI ih_16
  obtain ⟨hi, hre, hr2, hg1, hP, hD, hS, hl⟩ := hI
  have hR := q_ro hR0 hna hS
  refine lv_iload hx hb dX10_layOther_16 (lv_at hl 0 rfl) ?_
  refine q_if_le (a := i) (tgt := 46) hx hb dX10_layOther_18 (by decide) (by omega) (fun c_18 => ?_) (fun c_18 => ?_)
  · skip
    exact W.vret hx hb hr (fun t9 ht hW => ⟨⟨g1, rfl, (fun j hj => hg1 j (by omega) hj), by show va_P D vwCl _ t9.heap; rw [ht]; exact hP⟩, hS.F ht⟩) hS.2.2 dX10_layOther_46
  · skip
    refine lv_aload_n hx hb dX10_layOther_21 rfl (lv_at hl 2 rfl) ?_
    refine va_get (D := D) (own := RX10) (ref := "FuzzyFensModel") (ci := 9) (v := .ref m2) (C := RX10) (T := TX10) (N := 15) hx hb hts iX10_layOther_X10 hown hK hP 0 rfl rfl 7 (by decide) (hts (.fieldLink RX10 26 "FuzzyFensModel" "other" "[I") (List.mem_of_getElem? (i := 2) rfl)) (fun _ h9 => h9) rfl dX10_layOther_22 ?_
    refine lv_iload hx hb dX10_layOther_25 (lv_at hl 0 rfl) ?_
    refine lv_lload_n hx hb dX10_layOther_27 rfl (lv_at hl 1 rfl) ?_
    refine lv_ldc2 (v := 32) hx hb hown (hts (.constantLong RX10 48 (32)) (List.mem_of_getElem? (i := 3) rfl)) dX10_layOther_28 ?_
    refine q_cvl (show (32 : Int64) = lN 32 by decide) ?_
    refine lv_lrem hx hb dX10_layOther_31 (by decide) ?_
    refine q_cvl (pk_lRem (by omega) (by decide) (by decide)) ?_
    refine lv_l2i (v := nI (r % 32)) hx hb dX10_layOther_32 (lN_i _) ?_
    refine va_iast (D := D) hx hb hK hP hD hS 1 0 rfl rfl (vp_in_nI (n := i) (N := 11) (by omega) (by decide)) dX10_layOther_33 (fun H_4 locs_5 hP hD hS => ?_)
    rw [nI_clamp (n := i) (by omega)] at hP hD
    have hP : va_P D vwCl [(mo, .inr (9, [.int th, .int (nI n), .ref mw, .ref mct, .ref mp, .ref mnm, .ref m1, .ref m2, .int om, .int (nI (wl a)), .ref mt, .ref mk, .ref mr, .ref ml, .ref mq])), (m2, .inl (k6, 11, .inl (upd g1 i (nI (r % 32)))))] H_4 := hP
    have hD : va_D A [(mo, .inr (9, [.int th, .int (nI n), .ref mw, .ref mct, .ref mp, .ref mnm, .ref m1, .ref m2, .int om, .int (nI (wl a)), .ref mt, .ref mk, .ref mr, .ref ml, .ref mq])), (m2, .inl (k6, 11, .inl (upd g1 i (nI (r % 32)))))] := hD
    have hR := q_ro hR0 hna hS
    refine lv_lload_n hx hb dX10_layOther_34 rfl (lv_at hl 1 rfl) ?_
    refine lv_ldc2 (v := 32) hx hb hown (hts (.constantLong RX10 48 (32)) (List.mem_of_getElem? (i := 3) rfl)) dX10_layOther_35 ?_
    refine q_cvl (show (32 : Int64) = lN 32 by decide) ?_
    refine lv_ldiv hx hb dX10_layOther_38 (by decide) ?_
    refine q_cvl (pk_lDiv (by omega) (by decide) (by decide)) ?_
    refine lv_lstore_n (lv' := [(3, .long (lN (r / 32))), (5, .int (nI i)), (0, .ref mo), (1, .long (lN a))]) hx hb dX10_layOther_39 rfl hl (by decide) rfl (fun ls hl => ?_)
    refine lv_iinc (v := nI (i - 1)) (lv' := [(5, .int (nI (i - 1))), (3, .long (lN (r / 32))), (0, .ref mo), (1, .long (lN a))]) hx hb dX10_layOther_40 hl (k := 1) rfl (by rw [show Int32.ofInt (-1) = -(nI 1) from by decide, ← Int32.sub_eq_add_neg, pk_sub (by omega)]; try (congr 1; omega)) (by decide) rfl (fun ls hl => ?_)
    refine lv_goto (tgt := 16) hx hb dX10_layOther_43 (by decide) ?_
    exact ih_16 (i - 1, r / 32, upd g1 i (nI (r % 32))) _ _ _ ⟨(by omega), (by have e7 := lay_s (a := a) (i := i - 1) (r := r) (by omega) (by rw [show i - 1 + 1 = i by omega]; exact hre); exact e7), (by omega), (fun j h1 h2 => by by_cases e : j + 1 = i; (rw [e, pk_us]; congr 1; have e8 := lay_dg (a := a) (i := j) (r := r) h2 (by rw [e]; exact hre); exact e8); (rw [pk_un e]; exact hg1 j (by omega) h2)), hP, hD, hS, (lv_sub hl [0, 1, 2, 3] rfl)⟩ (by show (i - 1) < i; omega)

set_option maxHeartbeats 4000000 in
set_option maxRecDepth 100000 in
/-- lesser -/
theorem c_X10_lesser (l : Launch) (D : va_G) (a : Nat) (b : Nat) (ha : a < 2 ^ 31) (hb9 : b < 2 ^ 31) : Met l yX10_lesser wsX10_lesser { frames := 0, cells := 0, slots := 0, locals := 0 } (va_Pc [.int (nI a), .int (nI b)] (qP D ([]) [])) (vp_Si (fun rv : Int32 => rv = nI (min a b))) 0 0 (fun _ => False) := by
  refine Met.ofW (cc := cX10_lesser) (maxL := 2) (ret := (some .int)) (by decide) rfl ?_
  intro pM eM s mi9 argsM belowM methM cM sM B hml hv
  obtain ⟨rfl, hR, hK, hNw⟩ := hv
  have hx := B.exec
  have hb := B.bytes
  have hr := B.returns
  have hts := atoms_spec (ws := wsX10_lesser) B.pre
  have hown : s.vm.findClass RX10 = some mi9.cls := findClass_of_methodNamed B.named
  have hlocks := B.notSynchronized
  have hS : va_S (fun _ => False) s.heap s.heap [] := va_S.rf
  have hR : va_P D vwCl ([]) s.heap := hR
  have hl := lv_entry ([.int (nI a), .int (nI b)]) (n := 2) (Nat.le_of_ble_eq_true rfl)
  rw [lg_entry_eq]
  generalize (lg_sl ([.int (nI a), .int (nI b)]) ++ List.replicate (2 - (lg_sl ([.int (nI a), .int (nI b)])).length) Slot.unset).toArray = ls at hl ⊢
  have hl : lv_has ls 2 [(0, .int (nI a)), (1, .int (nI b))] := hl
  refine lv_iload_n hx hb dX10_lesser_0 rfl (lv_at hl 0 rfl) ?_
  refine lv_iload_n hx hb dX10_lesser_1 rfl (lv_at hl 1 rfl) ?_
  refine q_icmp_ge (a := a) (b := b) (tgt := 9) hx hb dX10_lesser_2 (by decide) (by omega) (by omega) (fun c_2 => ?_) (fun c_2 => ?_)
  · skip
    refine lv_iload_n hx hb dX10_lesser_9 rfl (lv_at hl 1 rfl) ?_
    exact W.iret (v := nI b) hx hb hr (fun t9 ht _ => ⟨nI b, rfl, (by first | rfl | exact congrArg nI (by omega)), ht⟩) (fun _ h => absurd h List.not_mem_nil) dX10_lesser_10
  · skip
    refine lv_iload_n hx hb dX10_lesser_5 rfl (lv_at hl 0 rfl) ?_
    refine lv_goto (tgt := 10) hx hb dX10_lesser_6 (by decide) ?_
    exact W.iret (v := nI a) hx hb hr (fun t9 ht _ => ⟨nI a, rfl, (by first | rfl | exact congrArg nI (by omega)), ht⟩) (fun _ h => absurd h List.not_mem_nil) dX10_lesser_10

set_option maxRecDepth 20000 in
theorem iX10_layDistances_X10 : ∀ w ∈ wsX100, w ∈ wsX10_layDistances := by decide +kernel
set_option maxHeartbeats 4000000 in
set_option maxRecDepth 100000 in
/-- layDistances -/
theorem c_X10_layDistances (l : Launch) (D : va_G) (sz : Nat) (mo : Nat) (mw : Nat) (mct : Nat) (mp : Nat) (mnm : Nat) (m1 : Nat) (m2 : Nat) (mt : Nat) (mk : Nat) (mr : Nat) (ml : Nat) (mq : Nat) (k5 : ClassId) (k6 : ClassId) (k7 : ClassId) (th : Int32) (n : Nat) (om : Int32) (tm : Int32) (f1 : Nat → Int32) (f2 : Nat → Int32) (ft : Nat → Int32) (a : Nat) (b : Nat) (hnd : ([mo, m1, m2, mt] ++ []).Nodup) (hwa : wl a ≤ 10) (hwb : wl b ≤ 10) (hla : a < 2 ^ 63) (hlb : b < 2 ^ 63) : Met l yX10_layDistances wsX10_layDistances { frames := 2, cells := 0, slots := 0, locals := 49 } (va_Pc [.ref mo, .long (lN a), .long (lN b)] (qW D sz ([]) [(mo, .inr (9, [.int th, .int (nI n), .ref mw, .ref mct, .ref mp, .ref mnm, .ref m1, .ref m2, .int om, .int tm, .ref mt, .ref mk, .ref mr, .ref ml, .ref mq])), (m1, .inl (k5, 11, .inl f1)), (m2, .inl (k6, 11, .inl f2)), (mt, .inl (k7, 121, .inl ft))] [(k5, .int), (k6, .int), (k7, .int)])) (va_Qv (fun (uv : (Nat → Int32) × (Nat → Int32) × (Nat → Int32)) => ∀ i j, i ≤ wl a → j ≤ wl b → uv.2.2 (11 * i + j) = nI (lev (ltz a) (ltz b) i j)) (fun (uv : (Nat → Int32) × (Nat → Int32) × (Nat → Int32)) (tv : State) => va_P D vwCl [(mo, .inr (9, [.int th, .int (nI n), .ref mw, .ref mct, .ref mp, .ref mnm, .ref m1, .ref m2, .int (nI (wl a)), .int (nI (wl b)), .ref mt, .ref mk, .ref mr, .ref ml, .ref mq])), (m1, .inl (k5, 11, .inl uv.1)), (m2, .inl (k6, 11, .inl uv.2.1)), (mt, .inl (k7, 121, .inl uv.2.2))] tv.heap) (va_A [(mo, .inr (9, [.int th, .int (nI n), .ref mw, .ref mct, .ref mp, .ref mnm, .ref m1, .ref m2, .int om, .int tm, .ref mt, .ref mk, .ref mr, .ref ml, .ref mq])), (m1, .inl (k5, 11, .inl f1)), (m2, .inl (k6, 11, .inl f2)), (mt, .inl (k7, 121, .inl ft))] sz)) 0 0 (va_A [(mo, .inr (9, [.int th, .int (nI n), .ref mw, .ref mct, .ref mp, .ref mnm, .ref m1, .ref m2, .int om, .int tm, .ref mt, .ref mk, .ref mr, .ref ml, .ref mq])), (m1, .inl (k5, 11, .inl f1)), (m2, .inl (k6, 11, .inl f2)), (mt, .inl (k7, 121, .inl ft))] sz) := by
  refine Met.ofW (cc := cX10_layDistances) (maxL := 8) (ret := none) (by decide) rfl ?_
  intro pM eM s mi9 argsM belowM methM cM sM B hml hv
  obtain ⟨rfl, hsz, hR0, hP, hK, hNw⟩ := hv
  have hx := B.exec
  have hb := B.bytes
  have hr := B.returns
  have hts := atoms_spec (ws := wsX10_layDistances) B.pre
  have hown : s.vm.findClass RX10 = some mi9.cls := findClass_of_methodNamed B.named
  have hlocks := B.notSynchronized
  subst hsz
  have hna := q_na (RW := [(mo, .inr (9, [.int th, .int (nI n), .ref mw, .ref mct, .ref mp, .ref mnm, .ref m1, .ref m2, .int om, .int tm, .ref mt, .ref mk, .ref mr, .ref ml, .ref mq])), (m1, .inl (k5, 11, .inl f1)), (m2, .inl (k6, 11, .inl f2)), (mt, .inl (k7, 121, .inl ft))]) (RO := []) hnd rfl rfl hR0
  have hD := q_D (RW := [(mo, .inr (9, [.int th, .int (nI n), .ref mw, .ref mct, .ref mp, .ref mnm, .ref m1, .ref m2, .int om, .int tm, .ref mt, .ref mk, .ref mr, .ref ml, .ref mq])), (m1, .inl (k5, 11, .inl f1)), (m2, .inl (k6, 11, .inl f2)), (mt, .inl (k7, 121, .inl ft))]) (sz := s.heap.size) hnd rfl
  have hA : ∀ q : Nat, s.heap.size ≤ q → va_A [(mo, .inr (9, [.int th, .int (nI n), .ref mw, .ref mct, .ref mp, .ref mnm, .ref m1, .ref m2, .int om, .int tm, .ref mt, .ref mk, .ref mr, .ref ml, .ref mq])), (m1, .inl (k5, 11, .inl f1)), (m2, .inl (k6, 11, .inl f2)), (mt, .inl (k7, 121, .inl ft))] s.heap.size q := fun q h => Or.inr h
  generalize hAe : va_A [(mo, .inr (9, [.int th, .int (nI n), .ref mw, .ref mct, .ref mp, .ref mnm, .ref m1, .ref m2, .int om, .int tm, .ref mt, .ref mk, .ref mr, .ref ml, .ref mq])), (m1, .inl (k5, 11, .inl f1)), (m2, .inl (k6, 11, .inl f2)), (mt, .inl (k7, 121, .inl ft))] s.heap.size = A at hna hD hA ⊢
  have hS : va_S A s.heap s.heap [] := va_S.rf
  have hR := hR0
  have hP : va_P D vwCl [(mo, .inr (9, [.int th, .int (nI n), .ref mw, .ref mct, .ref mp, .ref mnm, .ref m1, .ref m2, .int om, .int tm, .ref mt, .ref mk, .ref mr, .ref ml, .ref mq])), (m1, .inl (k5, 11, .inl f1)), (m2, .inl (k6, 11, .inl f2)), (mt, .inl (k7, 121, .inl ft))] s.heap := hP
  have hl := lv_entry ([.ref mo, .long (lN a), .long (lN b)]) (n := 8) (Nat.le_of_ble_eq_true rfl)
  rw [lg_entry_eq]
  generalize (lg_sl ([.ref mo, .long (lN a), .long (lN b)]) ++ List.replicate (8 - (lg_sl ([.ref mo, .long (lN a), .long (lN b)])).length) Slot.unset).toArray = ls at hl ⊢
  have hl : lv_has ls 8 [(0, .ref mo), (1, .long (lN a)), (3, .long (lN b))] := hl
  refine lv_aload_n hx hb dX10_layDistances_0 rfl (lv_at hl 0 rfl) ?_
  refine lv_lload_n hx hb dX10_layDistances_1 rfl (lv_at hl 1 rfl) ?_
  have hF := va_free (wc := [(mo, .inr (9, [.int th, .int (nI n), .ref mw, .ref mct, .ref mp, .ref mnm, .ref m1, .ref m2, .int om, .int tm, .ref mt, .ref mk, .ref mr, .ref ml, .ref mq])), (m1, .inl (k5, 11, .inl f1))]) hD hS hA [0, 1] rfl
  refine va_callv (va_runV (As := [.long (lN a)]) (rest := []) ⟨hx, hb, hml, hown, hts⟩ (c_X10_layOne (l := l) (D := D) (mo := mo) (mw := mw) (mct := mct) (mp := mp) (mnm := mnm) (m1 := m1) (m2 := m2) (mt := mt) (mk := mk) (mr := mr) (ml := ml) (mq := mq) (k5 := k5) (th := th) (n := n) (om := om) (tm := tm) (f1 := f1) (a := a) (sz := s.heap.size) (hnd := (q_nds hnd [0, 1] rfl rfl)) (ha := hla) (hw := hwa)) (cwV 1 hts gX10_layDistances_X10_layOne rfl rfl rfl (by decide +kernel) ⟨Nat.le_of_ble_eq_true rfl, Nat.le_of_ble_eq_true rfl⟩) ⟨qW_blind, (va_recv hK hP (ci := 9) (q0 := 0) rfl rfl), (qW_of (q_Pof (fun _ h => absurd h List.not_mem_nil)) (hP.sub (ws' := [(mo, .inr (9, [.int th, .int (nI n), .ref mw, .ref mct, .ref mp, .ref mnm, .ref m1, .ref m2, .int om, .int tm, .ref mt, .ref mk, .ref mr, .ref ml, .ref mq])), (m1, .inl (k5, 11, .inl f1))]) [0, 1] rfl) (hK.sub (tys' := [(k5, .int)]) [0] rfl) hNw)⟩ rfl rfl hl.1 rfl (lv_room (Nat.le_of_ble_eq_true rfl)) dX10_layDistances_2 ⟨Nat.le_of_ble_eq_true rfl, Nat.le_of_ble_eq_true rfl⟩) hS (fun q _ h => hF q h) hF (fun u_5 t_4 H_2 locs_3 ht hvm hr_1 hB hz1 hk1 hS => ?_)
  obtain ⟨g1, rfl⟩ : ∃ z, z = u_5 := ⟨_, rfl⟩
  replace hB : va_P D vwCl [(mo, .inr (9, [.int th, .int (nI n), .ref mw, .ref mct, .ref mp, .ref mnm, .ref m1, .ref m2, .int (nI (wl a)), .int tm, .ref mt, .ref mk, .ref mr, .ref ml, .ref mq])), (m1, .inl (k5, 11, .inl g1))] H_2 := by rw [← ht]; exact hB
  obtain ⟨hP, hD⟩ := q_join (wc := [(mo, .inr (9, [.int th, .int (nI n), .ref mw, .ref mct, .ref mp, .ref mnm, .ref m1, .ref m2, .int om, .int tm, .ref mt, .ref mk, .ref mr, .ref ml, .ref mq])), (m1, .inl (k5, 11, .inl f1))]) (w1 := [(mo, .inr (9, [.int th, .int (nI n), .ref mw, .ref mct, .ref mp, .ref mnm, .ref m1, .ref m2, .int (nI (wl a)), .int tm, .ref mt, .ref mk, .ref mr, .ref ml, .ref mq])), (m1, .inl (k5, 11, .inl g1))]) (ws' := [(mo, .inr (9, [.int th, .int (nI n), .ref mw, .ref mct, .ref mp, .ref mnm, .ref m1, .ref m2, .int (nI (wl a)), .int tm, .ref mt, .ref mk, .ref mr, .ref ml, .ref mq])), (m1, .inl (k5, 11, .inl g1)), (m2, .inl (k6, 11, .inl f2)), (mt, .inl (k7, 121, .inl ft))]) [0, 1] hP hD rfl rfl hk1 hB rfl
  have hR := q_ro hR0 hna hS
  have hone := hr_1
  refine lv_aload_n hx hb dX10_layDistances_5 rfl (lv_at hl 0 rfl) ?_
  refine lv_lload_n hx hb dX10_layDistances_6 rfl (lv_at hl 2 rfl) ?_
  have hF := va_free (wc := [(mo, .inr (9, [.int th, .int (nI n), .ref mw, .ref mct, .ref mp, .ref mnm, .ref m1, .ref m2, .int (nI (wl a)), .int tm, .ref mt, .ref mk, .ref mr, .ref ml, .ref mq])), (m2, .inl (k6, 11, .inl f2))]) hD hS hA [0, 2] rfl
  refine va_callv (va_runV (As := [.long (lN b)]) (rest := []) ⟨hx, hb, hml, hown, hts⟩ (c_X10_layOther (l := l) (D := D) (mo := mo) (mw := mw) (mct := mct) (mp := mp) (mnm := mnm) (m1 := m1) (m2 := m2) (mt := mt) (mk := mk) (mr := mr) (ml := ml) (mq := mq) (k6 := k6) (th := th) (n := n) (om := nI (wl a)) (tm := tm) (f2 := f2) (a := b) (sz := H_2.size) (hnd := (q_nds hnd [0, 2] rfl rfl)) (ha := hlb) (hw := hwb)) (cwV 1 hts gX10_layDistances_X10_layOther rfl rfl rfl (by decide +kernel) ⟨Nat.le_of_ble_eq_true rfl, Nat.le_of_ble_eq_true rfl⟩) ⟨qW_blind, (va_recv hK hP (ci := 9) (q0 := 0) rfl rfl), (qW_of (q_Pof (fun _ h => absurd h List.not_mem_nil)) (hP.sub (ws' := [(mo, .inr (9, [.int th, .int (nI n), .ref mw, .ref mct, .ref mp, .ref mnm, .ref m1, .ref m2, .int (nI (wl a)), .int tm, .ref mt, .ref mk, .ref mr, .ref ml, .ref mq])), (m2, .inl (k6, 11, .inl f2))]) [0, 2] rfl) (hK.sub (tys' := [(k6, .int)]) [1] rfl) hNw)⟩ rfl rfl hl.1 rfl (lv_room (Nat.le_of_ble_eq_true rfl)) dX10_layDistances_7 ⟨Nat.le_of_ble_eq_true rfl, Nat.le_of_ble_eq_true rfl⟩) hS (fun q _ h => hF q h) hF (fun u_10 t_9 H_7 locs_8 ht hvm hr_6 hB hz1 hk1 hS => ?_)
  obtain ⟨g2, rfl⟩ : ∃ z, z = u_10 := ⟨_, rfl⟩
  replace hB : va_P D vwCl [(mo, .inr (9, [.int th, .int (nI n), .ref mw, .ref mct, .ref mp, .ref mnm, .ref m1, .ref m2, .int (nI (wl a)), .int (nI (wl b)), .ref mt, .ref mk, .ref mr, .ref ml, .ref mq])), (m2, .inl (k6, 11, .inl g2))] H_7 := by rw [← ht]; exact hB
  obtain ⟨hP, hD⟩ := q_join (wc := [(mo, .inr (9, [.int th, .int (nI n), .ref mw, .ref mct, .ref mp, .ref mnm, .ref m1, .ref m2, .int (nI (wl a)), .int tm, .ref mt, .ref mk, .ref mr, .ref ml, .ref mq])), (m2, .inl (k6, 11, .inl f2))]) (w1 := [(mo, .inr (9, [.int th, .int (nI n), .ref mw, .ref mct, .ref mp, .ref mnm, .ref m1, .ref m2, .int (nI (wl a)), .int (nI (wl b)), .ref mt, .ref mk, .ref mr, .ref ml, .ref mq])), (m2, .inl (k6, 11, .inl g2))]) (ws' := [(mo, .inr (9, [.int th, .int (nI n), .ref mw, .ref mct, .ref mp, .ref mnm, .ref m1, .ref m2, .int (nI (wl a)), .int (nI (wl b)), .ref mt, .ref mk, .ref mr, .ref ml, .ref mq])), (m1, .inl (k5, 11, .inl g1)), (m2, .inl (k6, 11, .inl g2)), (mt, .inl (k7, 121, .inl ft))]) [0, 2] hP hD rfl rfl hk1 hB rfl
  have hR := q_ro hR0 hna hS
  have hoth := hr_6
  refine lv_iconst (v := nI 0) hx hb dX10_layDistances_10 (by decide) ?_
  refine lv_istore (lv' := [(5, .int (nI 0)), (0, .ref mo), (1, .long (lN a)), (3, .long (lN b))]) hx hb dX10_layDistances_11 hl (by decide) rfl (fun ls hl => ?_)
  refine q_loop (fun (x : (Nat) × (Nat → Int32)) (H : Heap) (locs : List Loc) (ls : Array Slot) => match x with | (i, h1) => (i ≤ wl a + 1) ∧ (∀ i9 j, j ≤ wl b → i9 < i → h1 (11 * i9 + j) = nI (lev (ltz a) (ltz b) i9 j)) ∧ va_P D vwCl [(mo, .inr (9, [.int th, .int (nI n), .ref mw, .ref mct, .ref mp, .ref mnm, .ref m1, .ref m2, .int (nI (wl a)), .int (nI (wl b)), .ref mt, .ref mk, .ref mr, .ref ml, .ref mq])), (m1, .inl (k5, 11, .inl g1)), (m2, .inl (k6, 11, .inl g2)), (mt, .inl (k7, 121, .inl h1))] H ∧ va_D A [(mo, .inr (9, [.int th, .int (nI n), .ref mw, .ref mct, .ref mp, .ref mnm, .ref m1, .ref m2, .int (nI (wl a)), .int (nI (wl b)), .ref mt, .ref mk, .ref mr, .ref ml, .ref mq])), (m1, .inl (k5, 11, .inl g1)), (m2, .inl (k6, 11, .inl g2)), (mt, .inl (k7, 121, .inl h1))] ∧ va_S A s.heap H locs ∧ lv_has ls 8 [(5, .int (nI i)), (0, .ref mo), (1, .long (lN a)), (3, .long (lN b))]) (fun (x : (Nat) × (Nat → Int32)) => match x with | (i, h1) => wl a + 1 - i) (0, ft) ⟨(by omega), (fun i9 j _ h => by omega), hP, hD, hS, (lv_sub hl [0, 1, 2, 3] rfl)⟩ ?_
  clear hl
  clear hP hD hS
  rintro ⟨i, h1⟩ H locs ls hI ih_13
  obtain ⟨hi, hrow, hP, hD, hS, hl⟩ := hI
  have hR := q_ro hR0 hna hS
  refine lv_iload hx hb dX10_layDistances_13 (lv_at hl 0 rfl) ?_
  refine lv_aload_n hx hb dX10_layDistances_15 rfl (lv_at hl 1 rfl) ?_
  refine va_get (D := D) (own := RX10) (ref := "FuzzyFensModel") (ci := 9) (v := .int (nI (wl a))) (C := RX10) (T := TX10) (N := 15) hx hb hts iX10_layDistances_X10 hown hK hP 0 rfl rfl 8 (by decide) (hts (.fieldLink RX10 56 "FuzzyFensModel" "oneMany" "I") (List.mem_of_getElem? (i := 1) rfl)) (fun _ h9 => h9) rfl dX10_layDistances_16 ?_
  refine q_icmp_gt (a := i) (b := wl a) (tgt := 162) hx hb dX10_layDistances_19 (by decide) (by omega) (by omega) (fun c_19 => ?_) (fun c_19 => ?_)
  · skip
    exact W.vret hx hb hr (fun t9 ht hW => ⟨⟨(g1, g2, h1), rfl, (fun i9 j9 h1 h2 => hrow i9 j9 h2 (by omega)), by show va_P D vwCl _ t9.heap; rw [ht]; exact hP⟩, hS.F ht⟩) hS.2.2 dX10_layDistances_162
  · skip
    refine lv_iconst (v := nI 0) hx hb dX10_layDistances_22 (by decide) ?_
    refine lv_istore (lv' := [(6, .int (nI 0)), (5, .int (nI i)), (0, .ref mo), (1, .long (lN a)), (3, .long (lN b))]) hx hb dX10_layDistances_23 hl (by decide) rfl (fun ls hl => ?_)
    refine q_loop (fun (x : (Nat) × (Nat → Int32)) (H : Heap) (locs : List Loc) (ls : Array Slot) => match x with | (j, h2) => (j ≤ wl b + 1) ∧ (∀ i9 j9, j9 ≤ wl b → i9 < i ∨ (i9 = i ∧ j9 < j) → h2 (11 * i9 + j9) = nI (lev (ltz a) (ltz b) i9 j9)) ∧ va_P D vwCl [(mo, .inr (9, [.int th, .int (nI n), .ref mw, .ref mct, .ref mp, .ref mnm, .ref m1, .ref m2, .int (nI (wl a)), .int (nI (wl b)), .ref mt, .ref mk, .ref mr, .ref ml, .ref mq])), (m1, .inl (k5, 11, .inl g1)), (m2, .inl (k6, 11, .inl g2)), (mt, .inl (k7, 121, .inl h2))] H ∧ va_D A [(mo, .inr (9, [.int th, .int (nI n), .ref mw, .ref mct, .ref mp, .ref mnm, .ref m1, .ref m2, .int (nI (wl a)), .int (nI (wl b)), .ref mt, .ref mk, .ref mr, .ref ml, .ref mq])), (m1, .inl (k5, 11, .inl g1)), (m2, .inl (k6, 11, .inl g2)), (mt, .inl (k7, 121, .inl h2))] ∧ va_S A s.heap H locs ∧ lv_has ls 8 [(6, .int (nI j)), (5, .int (nI i)), (0, .ref mo), (1, .long (lN a)), (3, .long (lN b))]) (fun (x : (Nat) × (Nat → Int32)) => match x with | (j, h2) => wl b + 1 - j) (0, h1) ⟨(by omega), (fun i9 j9 hj9 h => hrow i9 j9 hj9 (by omega)), hP, hD, hS, (lv_sub hl [0, 1, 2, 3, 4] rfl)⟩ ?_
    clear hl
    clear hP hD hS
    rintro ⟨j, h2⟩ H locs ls hI ih_25
    obtain ⟨hj, hcell, hP, hD, hS, hl⟩ := hI
    have hR := q_ro hR0 hna hS
    refine lv_iload hx hb dX10_layDistances_25 (lv_at hl 0 rfl) ?_
    refine lv_aload_n hx hb dX10_layDistances_27 rfl (lv_at hl 2 rfl) ?_
    refine va_get (D := D) (own := RX10) (ref := "FuzzyFensModel") (ci := 9) (v := .int (nI (wl b))) (C := RX10) (T := TX10) (N := 15) hx hb hts iX10_layDistances_X10 hown hK hP 0 rfl rfl 9 (by decide) (hts (.fieldLink RX10 59 "FuzzyFensModel" "otherMany" "I") (List.mem_of_getElem? (i := 2) rfl)) (fun _ h9 => h9) rfl dX10_layDistances_28 ?_
    refine q_icmp_gt (a := j) (b := wl b) (tgt := 156) hx hb dX10_layDistances_31 (by decide) (by omega) (by omega) (fun c_31 => ?_) (fun c_31 => ?_)
    · skip
      refine lv_iinc (v := nI (i + 1)) (lv' := [(5, .int (nI (i + 1))), (6, .int (nI j)), (0, .ref mo), (1, .long (lN a)), (3, .long (lN b))]) hx hb dX10_layDistances_156 hl (k := 1) rfl (q_inc (k := 1) (by omega)) (by decide) rfl (fun ls hl => ?_)
      refine lv_goto (tgt := 13) hx hb dX10_layDistances_159 (by decide) ?_
      exact ih_13 (i + 1, h2) _ _ _ ⟨(by omega), (fun i9 j hj hi9 => hcell i9 j hj (by omega)), hP, hD, hS, (lv_sub hl [0, 2, 3, 4] rfl)⟩ (by show wl a + 1 - (i + 1) < wl a + 1 - i; omega)
    · skip
      refine lv_iload hx hb dX10_layDistances_34 (lv_at hl 1 rfl) ?_
      refine lv_iload hx hb dX10_layDistances_36 (lv_at hl 0 rfl) ?_
      refine q_iadd (d := i + j) hx hb dX10_layDistances_38 (by omega) ?_
      refine lv_istore (lv' := [(7, .int (nI (i + j))), (6, .int (nI j)), (5, .int (nI i)), (0, .ref mo), (1, .long (lN a)), (3, .long (lN b))]) hx hb dX10_layDistances_39 hl (by decide) rfl (fun ls hl => ?_)
      refine q_cut 135 (fun (x : (Nat)) (Hc : Heap) (Lc : List Loc) (ls : Array Slot) (st : List Value) => match x with | z => (z = lev (ltz a) (ltz b) i j) ∧ H = Hc ∧ locs = Lc ∧ lv_has ls 8 [(7, .int (nI z)), (6, .int (nI j)), (5, .int (nI i)), (0, .ref mo), (1, .long (lN a)), (3, .long (lN b))] ∧ [] = st) ?_ ?_
      · clear hl
        rintro z Hc Lc ls st hI
        obtain ⟨hz, rfl, rfl, hl, rfl⟩ := hI
        refine lv_aload_n hx hb dX10_layDistances_135 rfl (lv_at hl 3 rfl) ?_
        refine va_get (D := D) (own := RX10) (ref := "FuzzyFensModel") (ci := 9) (v := .ref mt) (C := RX10) (T := TX10) (N := 15) hx hb hts iX10_layDistances_X10 hown hK hP 0 rfl rfl 10 (by decide) (hts (.fieldLink RX10 29 "FuzzyFensModel" "table" "[I") (List.mem_of_getElem? (i := 3) rfl)) (fun _ h9 => h9) rfl dX10_layDistances_136 ?_
        refine lv_bipush (v := nI 11) hx hb dX10_layDistances_139 (by decide) ?_
        refine lv_iload hx hb dX10_layDistances_141 (lv_at hl 2 rfl) ?_
        refine q_imul (d := 11 * i) hx hb dX10_layDistances_143 (by omega) ?_
        refine lv_iload hx hb dX10_layDistances_144 (lv_at hl 1 rfl) ?_
        refine q_iadd (d := 11 * i + j) hx hb dX10_layDistances_146 (by omega) ?_
        refine lv_iload hx hb dX10_layDistances_147 (lv_at hl 0 rfl) ?_
        refine va_iast (D := D) hx hb hK hP hD hS 3 2 rfl rfl (vp_in_nI (n := 11 * i + j) (N := 121) (by omega) (by decide)) dX10_layDistances_149 (fun H_11 locs_12 hP hD hS => ?_)
        rw [nI_clamp (n := 11 * i + j) (by omega)] at hP hD
        have hP : va_P D vwCl [(mo, .inr (9, [.int th, .int (nI n), .ref mw, .ref mct, .ref mp, .ref mnm, .ref m1, .ref m2, .int (nI (wl a)), .int (nI (wl b)), .ref mt, .ref mk, .ref mr, .ref ml, .ref mq])), (m1, .inl (k5, 11, .inl g1)), (m2, .inl (k6, 11, .inl g2)), (mt, .inl (k7, 121, .inl (upd h2 (11 * i + j) (nI z))))] H_11 := hP
        have hD : va_D A [(mo, .inr (9, [.int th, .int (nI n), .ref mw, .ref mct, .ref mp, .ref mnm, .ref m1, .ref m2, .int (nI (wl a)), .int (nI (wl b)), .ref mt, .ref mk, .ref mr, .ref ml, .ref mq])), (m1, .inl (k5, 11, .inl g1)), (m2, .inl (k6, 11, .inl g2)), (mt, .inl (k7, 121, .inl (upd h2 (11 * i + j) (nI z))))] := hD
        have hR := q_ro hR0 hna hS
        refine lv_iinc (v := nI (j + 1)) (lv' := [(6, .int (nI (j + 1))), (7, .int (nI z)), (5, .int (nI i)), (0, .ref mo), (1, .long (lN a)), (3, .long (lN b))]) hx hb dX10_layDistances_150 hl (k := 1) rfl (q_inc (k := 1) (by omega)) (by decide) rfl (fun ls hl => ?_)
        refine lv_goto (tgt := 25) hx hb dX10_layDistances_153 (by decide) ?_
        exact ih_25 (j + 1, upd h2 (11 * i + j) (nI z)) _ _ _ ⟨(by omega), (by intro i9 j9 hj9 h; by_cases e : i9 = i ∧ j9 = j; (rw [e.1, e.2, pk_us, hz]); (rw [pk_un (by omega)]; exact hcell i9 j9 hj9 (by omega))), hP, hD, hS, (lv_sub hl [0, 2, 3, 4, 5] rfl)⟩ (by show wl b + 1 - (j + 1) < wl b + 1 - j; omega)
      · intro hcut_135
        refine lv_iload hx hb dX10_layDistances_41 (lv_at hl 2 rfl) ?_
        refine q_if_le (a := i) (tgt := 135) hx hb dX10_layDistances_43 (by decide) (by omega) (fun c_43 => ?_) (fun c_43 => ?_)
        · skip
          exact hcut_135 (i + j) _ _ _ _ ⟨(by rw [c_43, lev_0, Nat.zero_add]), rfl, rfl, (lv_sub hl [0, 1, 2, 3, 4, 5] rfl), rfl⟩
        · skip
          refine lv_iload hx hb dX10_layDistances_46 (lv_at hl 1 rfl) ?_
          refine q_if_le (a := j) (tgt := 135) hx hb dX10_layDistances_48 (by decide) (by omega) (fun c_48 => ?_) (fun c_48 => ?_)
          · skip
            exact hcut_135 (i + j) _ _ _ _ ⟨(by rw [c_48, lev_s0, Nat.add_zero]), rfl, rfl, (lv_sub hl [0, 1, 2, 3, 4, 5] rfl), rfl⟩
          · skip
            refine lv_aload_n hx hb dX10_layDistances_51 rfl (lv_at hl 3 rfl) ?_
            refine va_get (D := D) (own := RX10) (ref := "FuzzyFensModel") (ci := 9) (v := .ref mt) (C := RX10) (T := TX10) (N := 15) hx hb hts iX10_layDistances_X10 hown hK hP 0 rfl rfl 10 (by decide) (hts (.fieldLink RX10 29 "FuzzyFensModel" "table" "[I") (List.mem_of_getElem? (i := 3) rfl)) (fun _ h9 => h9) rfl dX10_layDistances_52 ?_
            refine lv_bipush (v := nI 11) hx hb dX10_layDistances_55 (by decide) ?_
            refine lv_iload hx hb dX10_layDistances_57 (lv_at hl 2 rfl) ?_
            refine lv_iconst (v := nI 1) hx hb dX10_layDistances_59 (by decide) ?_
            refine q_isub (d := i - 1) hx hb dX10_layDistances_60 (by omega) ?_
            refine q_imul (d := 11 * i - 11) hx hb dX10_layDistances_61 (by omega) ?_
            refine lv_iload hx hb dX10_layDistances_62 (lv_at hl 1 rfl) ?_
            refine q_iadd (d := 11 * i + j - 11) hx hb dX10_layDistances_64 (by omega) ?_
            refine va_iald (D := D) hx hb hK hP 3 2 rfl rfl (vp_in_nI (n := 11 * i + j - 11) (N := 121) (by omega) (by decide)) dX10_layDistances_65 ?_
            rw [nI_clamp (n := 11 * i + j - 11) (by omega)]
            refine q_cvi (show (h2 (11 * i + j - 11)) = (nI (lev (ltz a) (ltz b) (i - 1) j)) from (by rw [show 11 * i + j - 11 = 11 * (i - 1) + j by omega]; exact hcell _ _ (by omega) (by omega))) ?_
            refine lv_aload_n hx hb dX10_layDistances_66 rfl (lv_at hl 3 rfl) ?_
            refine va_get (D := D) (own := RX10) (ref := "FuzzyFensModel") (ci := 9) (v := .ref mt) (C := RX10) (T := TX10) (N := 15) hx hb hts iX10_layDistances_X10 hown hK hP 0 rfl rfl 10 (by decide) (hts (.fieldLink RX10 29 "FuzzyFensModel" "table" "[I") (List.mem_of_getElem? (i := 3) rfl)) (fun _ h9 => h9) rfl dX10_layDistances_67 ?_
            refine lv_bipush (v := nI 11) hx hb dX10_layDistances_70 (by decide) ?_
            refine lv_iload hx hb dX10_layDistances_72 (lv_at hl 2 rfl) ?_
            refine q_imul (d := 11 * i) hx hb dX10_layDistances_74 (by omega) ?_
            refine lv_iload hx hb dX10_layDistances_75 (lv_at hl 1 rfl) ?_
            refine q_iadd (d := 11 * i + j) hx hb dX10_layDistances_77 (by omega) ?_
            refine lv_iconst (v := nI 1) hx hb dX10_layDistances_78 (by decide) ?_
            refine q_isub (d := 11 * i + j - 1) hx hb dX10_layDistances_79 (by omega) ?_
            refine va_iald (D := D) hx hb hK hP 3 2 rfl rfl (vp_in_nI (n := 11 * i + j - 1) (N := 121) (by omega) (by decide)) dX10_layDistances_80 ?_
            rw [nI_clamp (n := 11 * i + j - 1) (by omega)]
            refine q_cvi (show (h2 (11 * i + j - 1)) = (nI (lev (ltz a) (ltz b) i (j - 1))) from (by rw [show 11 * i + j - 1 = 11 * i + (j - 1) by omega]; exact hcell _ _ (by omega) (by omega))) ?_
            refine vp_callSi (W.runS (As := [.int (nI (lev (ltz a) (ltz b) (i - 1) j)), .int (nI (lev (ltz a) (ltz b) i (j - 1)))]) (rest := []) ⟨hx, hb, hml, hown, hts⟩ (c_X10_lesser (l := l) (D := D) (a := lev (ltz a) (ltz b) (i - 1) j) (b := lev (ltz a) (ltz b) i (j - 1)) (ha := (by have := lev_le (ltz a) (ltz b) (i - 1) (j); have := lev_le (ltz a) (ltz b) (i) (j - 1); have := lev_le (ltz a) (ltz b) (i - 1) (j - 1); omega)) (hb9 := (by have := lev_le (ltz a) (ltz b) (i - 1) (j); have := lev_le (ltz a) (ltz b) (i) (j - 1); have := lev_le (ltz a) (ltz b) (i - 1) (j - 1); omega))) (va_cwS 2 hts gX10_layDistances_X10_lesser rfl rfl rfl (by decide +kernel) ⟨Nat.le_of_ble_eq_true rfl, Nat.le_of_ble_eq_true rfl⟩) ⟨qP_blind, (qP_of (q_Pof (fun _ h => absurd h List.not_mem_nil)) (hK.sub (tys' := []) [] rfl) hNw)⟩ rfl rfl hl.1 rfl (lv_room (Nat.le_of_ble_eq_true rfl)) dX10_layDistances_81 ⟨Nat.le_of_ble_eq_true rfl, Nat.le_of_ble_eq_true rfl⟩) (fun r_13 hr_13 => ?_)
            subst hr_13
            refine lv_iconst (v := nI 1) hx hb dX10_layDistances_84 (by decide) ?_
            refine q_iadd (d := min (lev (ltz a) (ltz b) (i - 1) j) (lev (ltz a) (ltz b) i (j - 1)) + 1) hx hb dX10_layDistances_85 (by omega) ?_
            refine lv_istore (lv' := [(7, .int (nI (min (lev (ltz a) (ltz b) (i - 1) j) (lev (ltz a) (ltz b) i (j - 1)) + 1))), (6, .int (nI j)), (5, .int (nI i)), (0, .ref mo), (1, .long (lN a)), (3, .long (lN b))]) hx hb dX10_layDistances_86 hl (by decide) rfl (fun ls hl => ?_)
            refine lv_iload hx hb dX10_layDistances_88 (lv_at hl 0 rfl) ?_
            refine lv_aload_n hx hb dX10_layDistances_90 rfl (lv_at hl 3 rfl) ?_
            refine va_get (D := D) (own := RX10) (ref := "FuzzyFensModel") (ci := 9) (v := .ref mt) (C := RX10) (T := TX10) (N := 15) hx hb hts iX10_layDistances_X10 hown hK hP 0 rfl rfl 10 (by decide) (hts (.fieldLink RX10 29 "FuzzyFensModel" "table" "[I") (List.mem_of_getElem? (i := 3) rfl)) (fun _ h9 => h9) rfl dX10_layDistances_91 ?_
            refine lv_bipush (v := nI 11) hx hb dX10_layDistances_94 (by decide) ?_
            refine lv_iload hx hb dX10_layDistances_96 (lv_at hl 2 rfl) ?_
            refine lv_iconst (v := nI 1) hx hb dX10_layDistances_98 (by decide) ?_
            refine q_isub (d := i - 1) hx hb dX10_layDistances_99 (by omega) ?_
            refine q_imul (d := 11 * i - 11) hx hb dX10_layDistances_100 (by omega) ?_
            refine lv_iload hx hb dX10_layDistances_101 (lv_at hl 1 rfl) ?_
            refine q_iadd (d := 11 * i + j - 11) hx hb dX10_layDistances_103 (by omega) ?_
            refine lv_iconst (v := nI 1) hx hb dX10_layDistances_104 (by decide) ?_
            refine q_isub (d := 11 * i + j - 12) hx hb dX10_layDistances_105 (by omega) ?_
            refine va_iald (D := D) hx hb hK hP 3 2 rfl rfl (vp_in_nI (n := 11 * i + j - 12) (N := 121) (by omega) (by decide)) dX10_layDistances_106 ?_
            rw [nI_clamp (n := 11 * i + j - 12) (by omega)]
            refine q_cvi (show (h2 (11 * i + j - 12)) = (nI (lev (ltz a) (ltz b) (i - 1) (j - 1))) from (by rw [show 11 * i + j - 12 = 11 * (i - 1) + (j - 1) by omega]; exact hcell _ _ (by omega) (by omega))) ?_
            refine lv_aload_n hx hb dX10_layDistances_107 rfl (lv_at hl 3 rfl) ?_
            refine va_get (D := D) (own := RX10) (ref := "FuzzyFensModel") (ci := 9) (v := .ref m1) (C := RX10) (T := TX10) (N := 15) hx hb hts iX10_layDistances_X10 hown hK hP 0 rfl rfl 6 (by decide) (hts (.fieldLink RX10 23 "FuzzyFensModel" "one" "[I") (List.mem_of_getElem? (i := 4) rfl)) (fun _ h9 => h9) rfl dX10_layDistances_108 ?_
            refine lv_iload hx hb dX10_layDistances_111 (lv_at hl 2 rfl) ?_
            refine va_iald (D := D) hx hb hK hP 1 0 rfl rfl (vp_in_nI (n := i) (N := 11) (by omega) (by decide)) dX10_layDistances_113 ?_
            rw [nI_clamp (n := i) (by omega)]
            refine q_cvi (show (g1 i) = (nI (ltz a (i - 1))) from (by have e7 := hone (i - 1) (by omega); rw [show i - 1 + 1 = i by omega] at e7; exact e7)) ?_
            refine lv_aload_n hx hb dX10_layDistances_114 rfl (lv_at hl 3 rfl) ?_
            refine va_get (D := D) (own := RX10) (ref := "FuzzyFensModel") (ci := 9) (v := .ref m2) (C := RX10) (T := TX10) (N := 15) hx hb hts iX10_layDistances_X10 hown hK hP 0 rfl rfl 7 (by decide) (hts (.fieldLink RX10 26 "FuzzyFensModel" "other" "[I") (List.mem_of_getElem? (i := 5) rfl)) (fun _ h9 => h9) rfl dX10_layDistances_115 ?_
            refine lv_iload hx hb dX10_layDistances_118 (lv_at hl 1 rfl) ?_
            refine va_iald (D := D) hx hb hK hP 2 1 rfl rfl (vp_in_nI (n := j) (N := 11) (by omega) (by decide)) dX10_layDistances_120 ?_
            rw [nI_clamp (n := j) (by omega)]
            refine q_cvi (show (g2 j) = (nI (ltz b (j - 1))) from (by have e7 := hoth (j - 1) (by omega); rw [show j - 1 + 1 = j by omega] at e7; exact e7)) ?_
            refine q_cut 129 (fun (x : (Nat)) (Hc : Heap) (Lc : List Loc) (ls : Array Slot) (st : List Value) => match x with | cv => (cv = co (ltz a (i - 1)) (ltz b) (j - 1)) ∧ (cv ≤ 1) ∧ H = Hc ∧ locs = Lc ∧ lv_has ls 8 [(7, .int (nI (min (lev (ltz a) (ltz b) (i - 1) j) (lev (ltz a) (ltz b) i (j - 1)) + 1))), (6, .int (nI j)), (5, .int (nI i)), (0, .ref mo), (1, .long (lN a)), (3, .long (lN b))] ∧ [.int (nI cv), .int (nI (lev (ltz a) (ltz b) (i - 1) (j - 1))), .int (nI (min (lev (ltz a) (ltz b) (i - 1) j) (lev (ltz a) (ltz b) i (j - 1)) + 1))] = st) ?_ ?_
            · clear hl
              rintro cv Hc Lc ls st hI
              obtain ⟨hcv, hcb, rfl, rfl, hl, rfl⟩ := hI
              refine q_iadd (d := lev (ltz a) (ltz b) (i - 1) (j - 1) + cv) hx hb dX10_layDistances_129 (by omega) ?_
              refine vp_callSi (W.runS (As := [.int (nI (min (lev (ltz a) (ltz b) (i - 1) j) (lev (ltz a) (ltz b) i (j - 1)) + 1)), .int (nI (lev (ltz a) (ltz b) (i - 1) (j - 1) + cv))]) (rest := []) ⟨hx, hb, hml, hown, hts⟩ (c_X10_lesser (l := l) (D := D) (a := min (lev (ltz a) (ltz b) (i - 1) j) (lev (ltz a) (ltz b) i (j - 1)) + 1) (b := lev (ltz a) (ltz b) (i - 1) (j - 1) + cv) (ha := (by have := lev_le (ltz a) (ltz b) (i - 1) (j); have := lev_le (ltz a) (ltz b) (i) (j - 1); have := lev_le (ltz a) (ltz b) (i - 1) (j - 1); omega)) (hb9 := (by have := lev_le (ltz a) (ltz b) (i - 1) (j); have := lev_le (ltz a) (ltz b) (i) (j - 1); have := lev_le (ltz a) (ltz b) (i - 1) (j - 1); omega))) (va_cwS 2 hts gX10_layDistances_X10_lesser rfl rfl rfl (by decide +kernel) ⟨Nat.le_of_ble_eq_true rfl, Nat.le_of_ble_eq_true rfl⟩) ⟨qP_blind, (qP_of (q_Pof (fun _ h => absurd h List.not_mem_nil)) (hK.sub (tys' := []) [] rfl) hNw)⟩ rfl rfl hl.1 rfl (lv_room (Nat.le_of_ble_eq_true rfl)) dX10_layDistances_130 ⟨Nat.le_of_ble_eq_true rfl, Nat.le_of_ble_eq_true rfl⟩) (fun r_14 hr_14 => ?_)
              subst hr_14
              refine lv_istore (lv' := [(7, .int (nI (min (min (lev (ltz a) (ltz b) (i - 1) j) (lev (ltz a) (ltz b) i (j - 1)) + 1) (lev (ltz a) (ltz b) (i - 1) (j - 1) + cv)))), (6, .int (nI j)), (5, .int (nI i)), (0, .ref mo), (1, .long (lN a)), (3, .long (lN b))]) hx hb dX10_layDistances_133 hl (by decide) rfl (fun ls hl => ?_)
              exact hcut_135 (min (min (lev (ltz a) (ltz b) (i - 1) j) (lev (ltz a) (ltz b) i (j - 1)) + 1) (lev (ltz a) (ltz b) (i - 1) (j - 1) + cv)) _ _ _ _ ⟨(by obtain ⟨i, rfl⟩ : ∃ k, i = k + 1 := ⟨i - 1, by omega⟩; obtain ⟨j, rfl⟩ : ∃ k, j = k + 1 := ⟨j - 1, by omega⟩; rw [lev_ss, hcv]; simp only [Nat.add_sub_cancel]; omega), rfl, rfl, (lv_sub hl [0, 1, 2, 3, 4, 5] rfl), rfl⟩
            · intro hcut_129
              refine q_icmp_ne (a := ltz a (i - 1)) (b := ltz b (j - 1)) (tgt := 128) hx hb dX10_layDistances_121 (by decide) (by have := ltz_32 a (i - 1); omega) (by have := ltz_32 b (j - 1); omega) (fun c_121 => ?_) (fun c_121 => ?_)
              · skip
                refine lv_iconst (v := nI 1) hx hb dX10_layDistances_128 (by decide) ?_
                exact hcut_129 1 _ _ _ _ ⟨(by unfold co; rw [if_neg c_121]), (by omega), rfl, rfl, (lv_sub hl [0, 1, 2, 3, 4, 5] rfl), rfl⟩
              · skip
                refine lv_iconst (v := nI 0) hx hb dX10_layDistances_124 (by decide) ?_
                refine lv_goto (tgt := 129) hx hb dX10_layDistances_125 (by decide) ?_
                exact hcut_129 0 _ _ _ _ ⟨(by unfold co; rw [if_pos c_121]), (by omega), rfl, rfl, (lv_sub hl [0, 1, 2, 3, 4, 5] rfl), rfl⟩

set_option maxRecDepth 20000 in
theorem iX10_apart_X10 : ∀ w ∈ wsX100, w ∈ wsX10_apart := by decide +kernel
set_option maxHeartbeats 4000000 in
set_option maxRecDepth 100000 in
/-- apart -/
theorem c_X10_apart (l : Launch) (D : va_G) (sz : Nat) (mo : Nat) (mw : Nat) (mct : Nat) (mp : Nat) (mnm : Nat) (m1 : Nat) (m2 : Nat) (mt : Nat) (mk : Nat) (mr : Nat) (ml : Nat) (mq : Nat) (k5 : ClassId) (k6 : ClassId) (k7 : ClassId) (th : Int32) (n : Nat) (om : Int32) (tm : Int32) (f1 : Nat → Int32) (f2 : Nat → Int32) (ft : Nat → Int32) (a : Nat) (b : Nat) (hnd : ([mo, m1, m2, mt] ++ []).Nodup) (hwa : wl a ≤ 10) (hwb : wl b ≤ 10) (hla : a < 2 ^ 63) (hlb : b < 2 ^ 63) : Met l yX10_apart wsX10_apart { frames := 3, cells := 0, slots := 0, locals := 76 } (va_Pc [.ref mo, .long (lN a), .long (lN b)] (qW D sz ([]) [(mo, .inr (9, [.int th, .int (nI n), .ref mw, .ref mct, .ref mp, .ref mnm, .ref m1, .ref m2, .int om, .int tm, .ref mt, .ref mk, .ref mr, .ref ml, .ref mq])), (m1, .inl (k5, 11, .inl f1)), (m2, .inl (k6, 11, .inl f2)), (mt, .inl (k7, 121, .inl ft))] [(k5, .int), (k6, .int), (k7, .int)])) (va_Qi (fun (rv : Int32) (uv : (Nat → Int32) × (Nat → Int32) × (Nat → Int32)) => rv = nI (lev (ltz a) (ltz b) (wl a) (wl b))) (fun (uv : (Nat → Int32) × (Nat → Int32) × (Nat → Int32)) (tv : State) => va_P D vwCl [(mo, .inr (9, [.int th, .int (nI n), .ref mw, .ref mct, .ref mp, .ref mnm, .ref m1, .ref m2, .int (nI (wl a)), .int (nI (wl b)), .ref mt, .ref mk, .ref mr, .ref ml, .ref mq])), (m1, .inl (k5, 11, .inl uv.1)), (m2, .inl (k6, 11, .inl uv.2.1)), (mt, .inl (k7, 121, .inl uv.2.2))] tv.heap) (va_A [(mo, .inr (9, [.int th, .int (nI n), .ref mw, .ref mct, .ref mp, .ref mnm, .ref m1, .ref m2, .int om, .int tm, .ref mt, .ref mk, .ref mr, .ref ml, .ref mq])), (m1, .inl (k5, 11, .inl f1)), (m2, .inl (k6, 11, .inl f2)), (mt, .inl (k7, 121, .inl ft))] sz)) 0 0 (va_A [(mo, .inr (9, [.int th, .int (nI n), .ref mw, .ref mct, .ref mp, .ref mnm, .ref m1, .ref m2, .int om, .int tm, .ref mt, .ref mk, .ref mr, .ref ml, .ref mq])), (m1, .inl (k5, 11, .inl f1)), (m2, .inl (k6, 11, .inl f2)), (mt, .inl (k7, 121, .inl ft))] sz) := by
  refine Met.ofW (cc := cX10_apart) (maxL := 5) (ret := (some .int)) (by decide) rfl ?_
  intro pM eM s mi9 argsM belowM methM cM sM B hml hv
  obtain ⟨rfl, hsz, hR0, hP, hK, hNw⟩ := hv
  have hx := B.exec
  have hb := B.bytes
  have hr := B.returns
  have hts := atoms_spec (ws := wsX10_apart) B.pre
  have hown : s.vm.findClass RX10 = some mi9.cls := findClass_of_methodNamed B.named
  have hlocks := B.notSynchronized
  subst hsz
  have hna := q_na (RW := [(mo, .inr (9, [.int th, .int (nI n), .ref mw, .ref mct, .ref mp, .ref mnm, .ref m1, .ref m2, .int om, .int tm, .ref mt, .ref mk, .ref mr, .ref ml, .ref mq])), (m1, .inl (k5, 11, .inl f1)), (m2, .inl (k6, 11, .inl f2)), (mt, .inl (k7, 121, .inl ft))]) (RO := []) hnd rfl rfl hR0
  have hD := q_D (RW := [(mo, .inr (9, [.int th, .int (nI n), .ref mw, .ref mct, .ref mp, .ref mnm, .ref m1, .ref m2, .int om, .int tm, .ref mt, .ref mk, .ref mr, .ref ml, .ref mq])), (m1, .inl (k5, 11, .inl f1)), (m2, .inl (k6, 11, .inl f2)), (mt, .inl (k7, 121, .inl ft))]) (sz := s.heap.size) hnd rfl
  have hA : ∀ q : Nat, s.heap.size ≤ q → va_A [(mo, .inr (9, [.int th, .int (nI n), .ref mw, .ref mct, .ref mp, .ref mnm, .ref m1, .ref m2, .int om, .int tm, .ref mt, .ref mk, .ref mr, .ref ml, .ref mq])), (m1, .inl (k5, 11, .inl f1)), (m2, .inl (k6, 11, .inl f2)), (mt, .inl (k7, 121, .inl ft))] s.heap.size q := fun q h => Or.inr h
  generalize hAe : va_A [(mo, .inr (9, [.int th, .int (nI n), .ref mw, .ref mct, .ref mp, .ref mnm, .ref m1, .ref m2, .int om, .int tm, .ref mt, .ref mk, .ref mr, .ref ml, .ref mq])), (m1, .inl (k5, 11, .inl f1)), (m2, .inl (k6, 11, .inl f2)), (mt, .inl (k7, 121, .inl ft))] s.heap.size = A at hna hD hA ⊢
  have hS : va_S A s.heap s.heap [] := va_S.rf
  have hR := hR0
  have hP : va_P D vwCl [(mo, .inr (9, [.int th, .int (nI n), .ref mw, .ref mct, .ref mp, .ref mnm, .ref m1, .ref m2, .int om, .int tm, .ref mt, .ref mk, .ref mr, .ref ml, .ref mq])), (m1, .inl (k5, 11, .inl f1)), (m2, .inl (k6, 11, .inl f2)), (mt, .inl (k7, 121, .inl ft))] s.heap := hP
  have hl := lv_entry ([.ref mo, .long (lN a), .long (lN b)]) (n := 5) (Nat.le_of_ble_eq_true rfl)
  rw [lg_entry_eq]
  generalize (lg_sl ([.ref mo, .long (lN a), .long (lN b)]) ++ List.replicate (5 - (lg_sl ([.ref mo, .long (lN a), .long (lN b)])).length) Slot.unset).toArray = ls at hl ⊢
  have hl : lv_has ls 5 [(0, .ref mo), (1, .long (lN a)), (3, .long (lN b))] := hl
  refine lv_aload_n hx hb dX10_apart_0 rfl (lv_at hl 0 rfl) ?_
  refine lv_lload_n hx hb dX10_apart_1 rfl (lv_at hl 1 rfl) ?_
  refine lv_lload_n hx hb dX10_apart_2 rfl (lv_at hl 2 rfl) ?_
  have hF := va_free (wc := [(mo, .inr (9, [.int th, .int (nI n), .ref mw, .ref mct, .ref mp, .ref mnm, .ref m1, .ref m2, .int om, .int tm, .ref mt, .ref mk, .ref mr, .ref ml, .ref mq])), (m1, .inl (k5, 11, .inl f1)), (m2, .inl (k6, 11, .inl f2)), (mt, .inl (k7, 121, .inl ft))]) hD hS hA [0, 1, 2, 3] rfl
  refine va_callv (va_runV (As := [.long (lN a), .long (lN b)]) (rest := []) ⟨hx, hb, hml, hown, hts⟩ (c_X10_layDistances (l := l) (D := D) (mo := mo) (mw := mw) (mct := mct) (mp := mp) (mnm := mnm) (m1 := m1) (m2 := m2) (mt := mt) (mk := mk) (mr := mr) (ml := ml) (mq := mq) (k5 := k5) (k6 := k6) (k7 := k7) (th := th) (n := n) (om := om) (tm := tm) (f1 := f1) (f2 := f2) (ft := ft) (a := a) (b := b) (sz := s.heap.size) (hnd := (q_nds hnd [0, 1, 2, 3] rfl rfl)) (hwa := hwa) (hwb := hwb) (hla := hla) (hlb := hlb)) (cwV 2 hts gX10_apart_X10_layDistances rfl rfl rfl (by decide +kernel) ⟨Nat.le_of_ble_eq_true rfl, Nat.le_of_ble_eq_true rfl⟩) ⟨qW_blind, (va_recv hK hP (ci := 9) (q0 := 0) rfl rfl), (qW_of (q_Pof (fun _ h => absurd h List.not_mem_nil)) (hP.sub (ws' := [(mo, .inr (9, [.int th, .int (nI n), .ref mw, .ref mct, .ref mp, .ref mnm, .ref m1, .ref m2, .int om, .int tm, .ref mt, .ref mk, .ref mr, .ref ml, .ref mq])), (m1, .inl (k5, 11, .inl f1)), (m2, .inl (k6, 11, .inl f2)), (mt, .inl (k7, 121, .inl ft))]) [0, 1, 2, 3] rfl) (hK.sub (tys' := [(k5, .int), (k6, .int), (k7, .int)]) [0, 1, 2] rfl) hNw)⟩ rfl rfl hl.1 rfl (lv_room (Nat.le_of_ble_eq_true rfl)) dX10_apart_3 ⟨Nat.le_of_ble_eq_true rfl, Nat.le_of_ble_eq_true rfl⟩) hS (fun q _ h => hF q h) hF (fun u_5 t_4 H_2 locs_3 ht hvm hr_1 hB hz1 hk1 hS => ?_)
  obtain ⟨g1_6, g2_7, g3_8⟩ := u_5
  dsimp only at hr_1 hB
  replace hB : va_P D vwCl [(mo, .inr (9, [.int th, .int (nI n), .ref mw, .ref mct, .ref mp, .ref mnm, .ref m1, .ref m2, .int (nI (wl a)), .int (nI (wl b)), .ref mt, .ref mk, .ref mr, .ref ml, .ref mq])), (m1, .inl (k5, 11, .inl g1_6)), (m2, .inl (k6, 11, .inl g2_7)), (mt, .inl (k7, 121, .inl g3_8))] H_2 := by rw [← ht]; exact hB
  obtain ⟨hP, hD⟩ := q_join (wc := [(mo, .inr (9, [.int th, .int (nI n), .ref mw, .ref mct, .ref mp, .ref mnm, .ref m1, .ref m2, .int om, .int tm, .ref mt, .ref mk, .ref mr, .ref ml, .ref mq])), (m1, .inl (k5, 11, .inl f1)), (m2, .inl (k6, 11, .inl f2)), (mt, .inl (k7, 121, .inl ft))]) (w1 := [(mo, .inr (9, [.int th, .int (nI n), .ref mw, .ref mct, .ref mp, .ref mnm, .ref m1, .ref m2, .int (nI (wl a)), .int (nI (wl b)), .ref mt, .ref mk, .ref mr, .ref ml, .ref mq])), (m1, .inl (k5, 11, .inl g1_6)), (m2, .inl (k6, 11, .inl g2_7)), (mt, .inl (k7, 121, .inl g3_8))]) (ws' := [(mo, .inr (9, [.int th, .int (nI n), .ref mw, .ref mct, .ref mp, .ref mnm, .ref m1, .ref m2, .int (nI (wl a)), .int (nI (wl b)), .ref mt, .ref mk, .ref mr, .ref ml, .ref mq])), (m1, .inl (k5, 11, .inl g1_6)), (m2, .inl (k6, 11, .inl g2_7)), (mt, .inl (k7, 121, .inl g3_8))]) [0, 1, 2, 3] hP hD rfl rfl hk1 hB rfl
  have hR := q_ro hR0 hna hS
  have hld := hr_1
  refine lv_aload_n hx hb dX10_apart_6 rfl (lv_at hl 0 rfl) ?_
  refine va_get (D := D) (own := RX10) (ref := "FuzzyFensModel") (ci := 9) (v := .ref mt) (C := RX10) (T := TX10) (N := 15) hx hb hts iX10_apart_X10 hown hK hP 0 rfl rfl 10 (by decide) (hts (.fieldLink RX10 29 "FuzzyFensModel" "table" "[I") (List.mem_of_getElem? (i := 1) rfl)) (fun _ h9 => h9) rfl dX10_apart_7 ?_
  refine lv_bipush (v := nI 11) hx hb dX10_apart_10 (by decide) ?_
  refine lv_aload_n hx hb dX10_apart_12 rfl (lv_at hl 0 rfl) ?_
  refine va_get (D := D) (own := RX10) (ref := "FuzzyFensModel") (ci := 9) (v := .int (nI (wl a))) (C := RX10) (T := TX10) (N := 15) hx hb hts iX10_apart_X10 hown hK hP 0 rfl rfl 8 (by decide) (hts (.fieldLink RX10 56 "FuzzyFensModel" "oneMany" "I") (List.mem_of_getElem? (i := 2) rfl)) (fun _ h9 => h9) rfl dX10_apart_13 ?_
  refine q_imul (d := 11 * (wl a)) hx hb dX10_apart_16 (by omega) ?_
  refine lv_aload_n hx hb dX10_apart_17 rfl (lv_at hl 0 rfl) ?_
  refine va_get (D := D) (own := RX10) (ref := "FuzzyFensModel") (ci := 9) (v := .int (nI (wl b))) (C := RX10) (T := TX10) (N := 15) hx hb hts iX10_apart_X10 hown hK hP 0 rfl rfl 9 (by decide) (hts (.fieldLink RX10 59 "FuzzyFensModel" "otherMany" "I") (List.mem_of_getElem? (i := 3) rfl)) (fun _ h9 => h9) rfl dX10_apart_18 ?_
  refine q_iadd (d := 11 * (wl a) + wl b) hx hb dX10_apart_21 (by omega) ?_
  refine va_iald (D := D) hx hb hK hP 3 2 rfl rfl (vp_in_nI (n := 11 * (wl a) + wl b) (N := 121) (by omega) (by decide)) dX10_apart_22 ?_
  rw [nI_clamp (n := 11 * (wl a) + wl b) (by omega)]
  exact W.iret (v := g3_8 (11 * (wl a) + wl b)) hx hb hr (fun t9 ht hW => ⟨⟨g3_8 (11 * (wl a) + wl b), (g1_6, g2_7, g3_8), rfl, (hld _ _ (Nat.le_refl _) (Nat.le_refl _)), by show va_P D vwCl _ t9.heap; rw [ht]; exact hP⟩, hS.F ht⟩) hS.2.2 dX10_apart_23
