set_option maxHeartbeats 4000000 in
set_option maxRecDepth 100000 in
/-- Word.isSpelledBy -/
theorem c_X8_isSpelledBy (l : Launch) (D : va_G) (n : Nat) (hn : n < 2 ^ 64) : Met l yX8_isSpelledBy wsX8_isSpelledBy { frames := 0, cells := 0, slots := 0, locals := 0 } (va_Pc [.long (lN n)] (qP D ([]) [])) (vp_Si (fun rv : Int32 => rv = (if gw n then 1 else 0))) 0 0 (fun _ => False) := by
  refine Met.ofW (cc := cX8_isSpelledBy) (maxL := 7) (ret := (some .boolean)) (by decide) rfl ?_
  intro pM eM s mi9 argsM belowM methM cM sM B hml hv
  obtain ⟨rfl, hR, hK, hNw⟩ := hv
  have hx := B.exec
  have hb := B.bytes
  have hr := B.returns
  have hts := atoms_spec (ws := wsX8_isSpelledBy) B.pre
  have hown : s.vm.findClass RX8 = some mi9.cls := findClass_of_methodNamed B.named
  have hlocks := B.notSynchronized
  have hS : va_S (fun _ => False) s.heap s.heap [] := va_S.rf
  have hR : va_P D vwCl ([]) s.heap := hR
  have hl := lv_entry ([.long (lN n)]) (n := 7) (Nat.le_of_ble_eq_true rfl)
  rw [lg_entry_eq]
  generalize (lg_sl ([.long (lN n)]) ++ List.replicate (7 - (lg_sl ([.long (lN n)])).length) Slot.unset).toArray = ls at hl ⊢
  have hl : lv_has ls 7 [(0, .long (lN n))] := hl
  refine lv_lload_n hx hb dX8_isSpelledBy_0 rfl (lv_at hl 0 rfl) ?_
  refine lv_lstore_n (lv' := [(2, .long (lN n)), (0, .long (lN n))]) hx hb dX8_isSpelledBy_1 rfl hl (by decide) rfl (fun ls hl => ?_)
  refine lv_iconst (v := nI 0) hx hb dX8_isSpelledBy_2 (by decide) ?_
  refine lv_istore (lv' := [(4, .int (nI 0)), (2, .long (lN n)), (0, .long (lN n))]) hx hb dX8_isSpelledBy_3 hl (by decide) rfl (fun ls hl => ?_)
  refine q_loop (fun (x : (Nat) × (Nat)) (Hc : Heap) (Lc : List Loc) (ls : Array Slot) => match x with | (i, r) => (i ≤ 10) ∧ (r ≤ n) ∧ (okd 10 n = okd (10 - i) r) ∧ ((i = 0 ∧ r = n) ∨ r < 2 ^ 63) ∧ s.heap = Hc ∧ [] = Lc ∧ lv_has ls 7 [(4, .int (nI i)), (2, .long (lN r)), (0, .long (lN n))]) (fun (x : (Nat) × (Nat)) => match x with | (i, r) => 10 - i) (0, n) ⟨(by omega), (Nat.le_refl _), rfl, (Or.inl ⟨rfl, rfl⟩), rfl, rfl, (lv_sub hl [0, 1, 2] rfl)⟩ ?_
  clear hl
  rintro ⟨i, r⟩ Hc Lc ls hI ih_5
  obtain ⟨hi, hrn, hok, hr0, rfl, rfl, hl⟩ := hI
  refine lv_iload hx hb dX8_isSpelledBy_5 (lv_at hl 0 rfl) ?_
  refine lv_bipush (v := nI 10) hx hb dX8_isSpelledBy_7 (by decide) ?_
  refine q_icmp_ge (a := i) (b := 10) (tgt := 53) hx hb dX8_isSpelledBy_9 (by decide) (by omega) (by omega) (fun c_9 => ?_) (fun c_9 => ?_)
  · skip
    refine lv_lload_n hx hb dX8_isSpelledBy_53 rfl (lv_at hl 2 rfl) ?_
    refine lv_lconst (v := lN 0) hx hb dX8_isSpelledBy_54 (by decide) ?_
    refine W.lcmp hx hb dX8_isSpelledBy_55 ?_
    refine q_lz_le (a := n) (tgt := 69) hx hb dX8_isSpelledBy_56 (by decide) (by omega) (fun c_56 => ?_) (fun c_56 => ?_)
    · skip
      refine lv_iconst (v := nI 0) hx hb dX8_isSpelledBy_69 (by decide) ?_
      exact W.zret (v := nI 0) hx hb hr (by decide) (fun t9 ht _ => ⟨nI 0, rfl, (if_neg (fun hg => by have := gw_lt hg; have := hg.1; omega)).symm, ht⟩) (fun _ h => absurd h List.not_mem_nil) dX8_isSpelledBy_70
    · skip
      refine lv_lload_n hx hb dX8_isSpelledBy_59 rfl (lv_at hl 1 rfl) ?_
      refine lv_lconst (v := lN 0) hx hb dX8_isSpelledBy_60 (by decide) ?_
      refine W.lcmp hx hb dX8_isSpelledBy_61 ?_
      refine q_lc_ne (a := r) (b := 0) (tgt := 69) hx hb dX8_isSpelledBy_62 (by decide) (by omega) (by omega) (fun c_62 => ?_) (fun c_62 => ?_)
      · skip
        refine lv_iconst (v := nI 0) hx hb dX8_isSpelledBy_69 (by decide) ?_
        exact W.zret (v := nI 0) hx hb hr (by decide) (fun t9 ht _ => ⟨nI 0, rfl, (if_neg (fun hg => c_62 (okd_0.mp (by rw [← (show 10 - i = 0 by omega), ← hok]; exact hg.2)))).symm, ht⟩) (fun _ h => absurd h List.not_mem_nil) dX8_isSpelledBy_70
      · skip
        refine lv_iconst (v := nI 1) hx hb dX8_isSpelledBy_65 (by decide) ?_
        refine lv_goto (tgt := 70) hx hb dX8_isSpelledBy_66 (by decide) ?_
        exact W.zret (v := nI 1) hx hb hr (by decide) (fun t9 ht _ => ⟨nI 1, rfl, (if_pos ⟨by omega, by rw [hok, show r = 0 by omega, okd_z]⟩).symm, ht⟩) (fun _ h => absurd h List.not_mem_nil) dX8_isSpelledBy_70
  · skip
    refine lv_lload_n hx hb dX8_isSpelledBy_12 rfl (lv_at hl 1 rfl) ?_
    refine lv_lconst (v := lN 0) hx hb dX8_isSpelledBy_13 (by decide) ?_
    refine W.lcmp hx hb dX8_isSpelledBy_14 ?_
    refine q_lz_le (a := r) (tgt := 53) hx hb dX8_isSpelledBy_15 (by decide) (by omega) (fun c_15 => ?_) (fun c_15 => ?_)
    · skip
      refine lv_lload_n hx hb dX8_isSpelledBy_53 rfl (lv_at hl 2 rfl) ?_
      refine lv_lconst (v := lN 0) hx hb dX8_isSpelledBy_54 (by decide) ?_
      refine W.lcmp hx hb dX8_isSpelledBy_55 ?_
      refine q_lz_le (a := n) (tgt := 69) hx hb dX8_isSpelledBy_56 (by decide) (by omega) (fun c_56 => ?_) (fun c_56 => ?_)
      · skip
        refine lv_iconst (v := nI 0) hx hb dX8_isSpelledBy_69 (by decide) ?_
        exact W.zret (v := nI 0) hx hb hr (by decide) (fun t9 ht _ => ⟨nI 0, rfl, (if_neg (fun hg => by have := gw_lt hg; have := hg.1; omega)).symm, ht⟩) (fun _ h => absurd h List.not_mem_nil) dX8_isSpelledBy_70
      · skip
        refine lv_lload_n hx hb dX8_isSpelledBy_59 rfl (lv_at hl 1 rfl) ?_
        refine lv_lconst (v := lN 0) hx hb dX8_isSpelledBy_60 (by decide) ?_
        refine W.lcmp hx hb dX8_isSpelledBy_61 ?_
        refine q_lc_ne (a := r) (b := 0) (tgt := 69) hx hb dX8_isSpelledBy_62 (by decide) (by omega) (by omega) (fun c_62 => ?_) (fun c_62 => ?_)
        · skip
          refine lv_iconst (v := nI 0) hx hb dX8_isSpelledBy_69 (by decide) ?_
          exact W.zret (v := nI 0) hx hb hr (by decide) (fun t9 ht _ => ⟨nI 0, rfl, (if_neg (fun hg => by omega)).symm, ht⟩) (fun _ h => absurd h List.not_mem_nil) dX8_isSpelledBy_70
        · skip
          refine lv_iconst (v := nI 1) hx hb dX8_isSpelledBy_65 (by decide) ?_
          refine lv_goto (tgt := 70) hx hb dX8_isSpelledBy_66 (by decide) ?_
          exact W.zret (v := nI 1) hx hb hr (by decide) (fun t9 ht _ => ⟨nI 1, rfl, (if_pos ⟨by omega, by rw [hok, show r = 0 by omega, okd_z]⟩).symm, ht⟩) (fun _ h => absurd h List.not_mem_nil) dX8_isSpelledBy_70
    · skip
      refine lv_lload_n hx hb dX8_isSpelledBy_18 rfl (lv_at hl 1 rfl) ?_
      refine lv_ldc2 (v := 31) hx hb hown (hts (.constantLong RX8 26 (31)) (List.mem_of_getElem? (i := 1) rfl)) dX8_isSpelledBy_19 ?_
      refine q_cvl (show (31 : Int64) = lN 31 by decide) ?_
      refine lv_land hx hb dX8_isSpelledBy_22 ?_
      refine q_cvl (show ((lN r) &&& (lN 31)) = (lN (r % 32)) from q_m31 (by omega)) ?_
      refine lv_lstore (lv' := [(5, .long (lN (r % 32))), (4, .int (nI i)), (2, .long (lN r)), (0, .long (lN n))]) hx hb dX8_isSpelledBy_23 hl (by decide) rfl (fun ls hl => ?_)
      refine lv_lload hx hb dX8_isSpelledBy_25 (lv_at hl 0 rfl) ?_
      refine lv_lconst (v := lN 1) hx hb dX8_isSpelledBy_27 (by decide) ?_
      refine W.lcmp hx hb dX8_isSpelledBy_28 ?_
      refine q_lc_lt (a := r % 32) (b := 1) (tgt := 41) hx hb dX8_isSpelledBy_29 (by decide) (by omega) (by omega) (fun c_29 => ?_) (fun c_29 => ?_)
      · skip
        refine lv_iconst (v := nI 0) hx hb dX8_isSpelledBy_41 (by decide) ?_
        exact W.zret (v := nI 0) hx hb hr (by decide) (fun t9 ht _ => ⟨nI 0, rfl, (if_neg (fun hg => by have h1 := hg.2; rw [hok, show 10 - i = (9 - i) + 1 by omega] at h1; have := ((okd_s (by omega)).mp h1).1; omega)).symm, ht⟩) (fun _ h => absurd h List.not_mem_nil) dX8_isSpelledBy_42
      · skip
        refine lv_lload hx hb dX8_isSpelledBy_32 (lv_at hl 0 rfl) ?_
        refine lv_ldc2 (v := 26) hx hb hown (hts (.constantLong RX8 28 (26)) (List.mem_of_getElem? (i := 2) rfl)) dX8_isSpelledBy_34 ?_
        refine q_cvl (show (26 : Int64) = lN 26 by decide) ?_
        refine W.lcmp hx hb dX8_isSpelledBy_37 ?_
        refine q_lc_le (a := r % 32) (b := 26) (tgt := 43) hx hb dX8_isSpelledBy_38 (by decide) (by omega) (by omega) (fun c_38 => ?_) (fun c_38 => ?_)
        · skip
          refine lv_lload_n hx hb dX8_isSpelledBy_43 rfl (lv_at hl 2 rfl) ?_
          refine lv_iconst (v := nI 5) hx hb dX8_isSpelledBy_44 (by decide) ?_
          refine lv_lushr (v := lN (r / 32)) hx hb dX8_isSpelledBy_45 ((q_shr5 (e := 1) (by omega) (by decide) rfl).trans (by rw [Nat.pow_one])) ?_
          refine lv_lstore_n (lv' := [(2, .long (lN (r / 32))), (5, .long (lN (r % 32))), (4, .int (nI i)), (0, .long (lN n))]) hx hb dX8_isSpelledBy_46 rfl hl (by decide) rfl (fun ls hl => ?_)
          refine lv_iinc (v := nI (i + 1)) (lv' := [(4, .int (nI (i + 1))), (2, .long (lN (r / 32))), (5, .long (lN (r % 32))), (0, .long (lN n))]) hx hb dX8_isSpelledBy_47 hl (k := 2) rfl (q_inc (k := 1) (by omega)) (by decide) rfl (fun ls hl => ?_)
          refine lv_goto (tgt := 5) hx hb dX8_isSpelledBy_50 (by decide) ?_
          exact ih_5 (i + 1, r / 32) _ _ _ ⟨(by omega), (by omega), (by rw [hok, show 10 - i = (10 - (i + 1)) + 1 by omega]; have e1 := okd_s (f := 10 - (i + 1)) (k := r) (by omega); cases h9 : okd (10 - (i + 1)) (r / 32) <;> simp_all [okd] <;> omega), (by omega), rfl, rfl, (lv_sub hl [0, 1, 3] rfl)⟩ (by show 10 - (i + 1) < 10 - i; omega)
        · skip
          refine lv_iconst (v := nI 0) hx hb dX8_isSpelledBy_41 (by decide) ?_
          exact W.zret (v := nI 0) hx hb hr (by decide) (fun t9 ht _ => ⟨nI 0, rfl, (if_neg (fun hg => by have h1 := hg.2; rw [hok, show 10 - i = (9 - i) + 1 by omega] at h1; have := ((okd_s (by omega)).mp h1).1; omega)).symm, ht⟩) (fun _ h => absurd h List.not_mem_nil) dX8_isSpelledBy_42

set_option maxHeartbeats 4000000 in
set_option maxRecDepth 100000 in
/-- Word.lengthOf -/
theorem c_X8_lengthOf (l : Launch) (D : va_G) (n : Nat) (hn : n < 2 ^ 63) (hw : wl n ≤ 10) : Met l yX8_lengthOf wsX8_lengthOf { frames := 0, cells := 0, slots := 0, locals := 0 } (va_Pc [.long (lN n)] (qP D ([]) [])) (vp_Si (fun rv : Int32 => rv = nI (wl n))) 0 0 (fun _ => False) := by
  refine Met.ofW (cc := cX8_lengthOf) (maxL := 5) (ret := (some .int)) (by decide) rfl ?_
  intro pM eM s mi9 argsM belowM methM cM sM B hml hv
  obtain ⟨rfl, hR, hK, hNw⟩ := hv
  have hx := B.exec
  have hb := B.bytes
  have hr := B.returns
  have hts := atoms_spec (ws := wsX8_lengthOf) B.pre
  have hown : s.vm.findClass RX8 = some mi9.cls := findClass_of_methodNamed B.named
  have hlocks := B.notSynchronized
  have hS : va_S (fun _ => False) s.heap s.heap [] := va_S.rf
  have hR : va_P D vwCl ([]) s.heap := hR
  have hl := lv_entry ([.long (lN n)]) (n := 5) (Nat.le_of_ble_eq_true rfl)
  rw [lg_entry_eq]
  generalize (lg_sl ([.long (lN n)]) ++ List.replicate (5 - (lg_sl ([.long (lN n)])).length) Slot.unset).toArray = ls at hl ⊢
  have hl : lv_has ls 5 [(0, .long (lN n))] := hl
  refine lv_iconst (v := nI 0) hx hb dX8_lengthOf_0 (by decide) ?_
  refine lv_istore_n (lv' := [(2, .int (nI 0)), (0, .long (lN n))]) hx hb dX8_lengthOf_1 rfl hl (by decide) rfl (fun ls hl => ?_)
  refine lv_lload_n hx hb dX8_lengthOf_2 rfl (lv_at hl 1 rfl) ?_
  refine lv_lstore_n (lv' := [(3, .long (lN n)), (2, .int (nI 0)), (0, .long (lN n))]) hx hb dX8_lengthOf_3 rfl hl (by decide) rfl (fun ls hl => ?_)
  refine q_loop (fun (x : (Nat) × (Nat)) (Hc : Heap) (Lc : List Loc) (ls : Array Slot) => match x with | (len, r) => (len + wl r = wl n) ∧ (r ≤ n) ∧ s.heap = Hc ∧ [] = Lc ∧ lv_has ls 5 [(3, .long (lN r)), (2, .int (nI len)), (0, .long (lN n))]) (fun (x : (Nat) × (Nat)) => match x with | (len, r) => 10 - len) (0, n) ⟨(by omega), (Nat.le_refl _), rfl, rfl, (lv_sub hl [0, 1, 2] rfl)⟩ ?_
  clear hl
  rintro ⟨len, r⟩ Hc Lc ls hI ih_4
  obtain ⟨h1, h2, rfl, rfl, hl⟩ := hI
  refine lv_iload_n hx hb dX8_lengthOf_4 rfl (lv_at hl 1 rfl) ?_
  refine lv_bipush (v := nI 10) hx hb dX8_lengthOf_5 (by decide) ?_
  refine q_icmp_ge (a := len) (b := 10) (tgt := 26) hx hb dX8_lengthOf_7 (by decide) (by omega) (by omega) (fun c_7 => ?_) (fun c_7 => ?_)
  · skip
    refine lv_iload_n hx hb dX8_lengthOf_26 rfl (lv_at hl 1 rfl) ?_
    exact W.iret (v := nI len) hx hb hr (fun t9 ht _ => ⟨nI len, rfl, (by first | rfl | exact congrArg nI (by omega)), ht⟩) (fun _ h => absurd h List.not_mem_nil) dX8_lengthOf_27
  · skip
    refine lv_lload_n hx hb dX8_lengthOf_10 rfl (lv_at hl 0 rfl) ?_
    refine lv_lconst (v := lN 0) hx hb dX8_lengthOf_11 (by decide) ?_
    refine W.lcmp hx hb dX8_lengthOf_12 ?_
    refine q_lz_le (a := r) (tgt := 26) hx hb dX8_lengthOf_13 (by decide) (by omega) (fun c_13 => ?_) (fun c_13 => ?_)
    · skip
      refine lv_iload_n hx hb dX8_lengthOf_26 rfl (lv_at hl 1 rfl) ?_
      have h9 : r = 0 := by omega
      rw [h9, wl_0] at h1
      exact W.iret (v := nI len) hx hb hr (fun t9 ht _ => ⟨nI len, rfl, (by first | rfl | exact congrArg nI (by omega)), ht⟩) (fun _ h => absurd h List.not_mem_nil) dX8_lengthOf_27
    · skip
      refine lv_iinc (v := nI (len + 1)) (lv' := [(2, .int (nI (len + 1))), (3, .long (lN r)), (0, .long (lN n))]) hx hb dX8_lengthOf_16 hl (k := 1) rfl (q_inc (k := 1) (by omega)) (by decide) rfl (fun ls hl => ?_)
      refine lv_lload_n hx hb dX8_lengthOf_19 rfl (lv_at hl 1 rfl) ?_
      refine lv_iconst (v := nI 5) hx hb dX8_lengthOf_20 (by decide) ?_
      refine lv_lushr (v := lN (r / 32)) hx hb dX8_lengthOf_21 ((q_shr5 (e := 1) (by omega) (by decide) rfl).trans (by rw [Nat.pow_one])) ?_
      refine lv_lstore_n (lv' := [(3, .long (lN (r / 32))), (2, .int (nI (len + 1))), (0, .long (lN n))]) hx hb dX8_lengthOf_22 rfl hl (by decide) rfl (fun ls hl => ?_)
      refine lv_goto (tgt := 4) hx hb dX8_lengthOf_23 (by decide) ?_
      exact ih_4 (len + 1, r / 32) _ _ _ ⟨(by have := wl_s (k := r) (by omega); omega), (by omega), rfl, rfl, (lv_sub hl [0, 1, 2] rfl)⟩ (by show 10 - (len + 1) < 10 - len; omega)

set_option maxRecDepth 20000 in
theorem iX8_init_X8 : ∀ w ∈ wsX80, w ∈ wsX8_init := by decide +kernel
set_option maxHeartbeats 4000000 in
set_option maxRecDepth 100000 in
/-- Word(number) -/
theorem c_X8_init (l : Launch) (D : va_G) (sz : Nat) (w : Nat) (n : Nat) (hnd : ([w] ++ []).Nodup) (hg : gw n) : Met l yX8_init wsX8_init { frames := 1, cells := 0, slots := 0, locals := 24 } (va_Pc [.ref w, .long (lN n)] (qW D sz ([]) [(w, .inr (7, [.long 0, .int 0, .long 0]))] [])) (va_Qv (fun (uv : Unit) => True) (fun (uv : Unit) (tv : State) => va_P D vwCl [(w, .inr (7, [.long (lN n), .int (nI (wl n)), .long (lN (al n))]))] tv.heap) (va_A [(w, .inr (7, [.long 0, .int 0, .long 0]))] sz)) 0 0 (va_A [(w, .inr (7, [.long 0, .int 0, .long 0]))] sz) := by
  refine Met.ofW (cc := cX8_init) (maxL := 3) (ret := none) (by decide) rfl ?_
  intro pM eM s mi9 argsM belowM methM cM sM B hml hv
  obtain ⟨rfl, hsz, hR0, hP, hK, hNw⟩ := hv
  have hx := B.exec
  have hb := B.bytes
  have hr := B.returns
  have hts := atoms_spec (ws := wsX8_init) B.pre
  have hown : s.vm.findClass RX8 = some mi9.cls := findClass_of_methodNamed B.named
  have hlocks := B.notSynchronized
  have hin : methM.name = "<init>" := (name_of_methodNamed B.named B.method).1
  subst hsz
  have hna := q_na (RW := [(w, .inr (7, [.long 0, .int 0, .long 0]))]) (RO := []) hnd rfl rfl hR0
  have hD := q_D (RW := [(w, .inr (7, [.long 0, .int 0, .long 0]))]) (sz := s.heap.size) hnd rfl
  have hA : ∀ q : Nat, s.heap.size ≤ q → va_A [(w, .inr (7, [.long 0, .int 0, .long 0]))] s.heap.size q := fun q h => Or.inr h
  generalize hAe : va_A [(w, .inr (7, [.long 0, .int 0, .long 0]))] s.heap.size = A at hna hD hA ⊢
  have hS : va_S A s.heap s.heap [] := va_S.rf
  have hR := hR0
  have hP : va_P D vwCl [(w, .inr (7, [.long 0, .int 0, .long 0]))] s.heap := hP
  have hl := lv_entry ([.ref w, .long (lN n)]) (n := 3) (Nat.le_of_ble_eq_true rfl)
  rw [lg_entry_eq]
  generalize (lg_sl ([.ref w, .long (lN n)]) ++ List.replicate (3 - (lg_sl ([.ref w, .long (lN n)])).length) Slot.unset).toArray = ls at hl ⊢
  have hl : lv_has ls 3 [(0, .ref w), (1, .long (lN n))] := hl
  have hwl := gw_wl hg
  have hlt := gw_lt hg
  refine lv_aload_n hx hb dX8_init_0 rfl (lv_at hl 0 rfl) ?_
  refine W.objInit hx hb hown (hts (.methodLink RX8 3 objectInit) (List.mem_of_getElem? (i := 1) rfl)) (hts (.instanceMethod objectInit) (List.mem_of_getElem? (i := 2) rfl)) (hts (.code objectInit ⟨#[0xb1]⟩ 1 none) (List.mem_of_getElem? (i := 3) rfl)) rfl (by rw [hml]; exact hl.1) rfl dX8_init_1 (Nat.le_of_ble_eq_true rfl) (Nat.le_of_ble_eq_true rfl) ?_
  refine W.eq (g2 := F0 mi9 4 ls []) rfl ?_
  refine lv_aload_n hx hb dX8_init_4 rfl (lv_at hl 0 rfl) ?_
  refine lv_lload_n hx hb dX8_init_5 rfl (lv_at hl 1 rfl) ?_
  refine va_putF (D := D) (ci := 7) (v := .long (lN n)) (ty := .long) (C := RX8) (T := TX8) (N := 3) hx hb hts iX8_init_X8 tyX8 tyX8_ok nmX8 hown hK hP hD hS 0 rfl rfl 0 (by decide) (hts (.fieldLink RX8 9 "FuzzyFens$Word" "number" "J") (List.mem_of_getElem? (i := 4) rfl)) (fun _ h9 => h9) rfl hin rfl (by decide +kernel) rfl rfl (Nat.le_of_ble_eq_true rfl) dX8_init_6 (fun H_1 locs_2 hP hD hS => ?_)
  have hP : va_P D vwCl [(w, .inr (7, [.long (lN n), .int 0, .long 0]))] H_1 := hP
  have hD : va_D A [(w, .inr (7, [.long (lN n), .int 0, .long 0]))] := hD
  have hR := q_ro hR0 hna hS
  refine lv_aload_n hx hb dX8_init_9 rfl (lv_at hl 0 rfl) ?_
  refine lv_lload_n hx hb dX8_init_10 rfl (lv_at hl 1 rfl) ?_
  refine vp_callSi (W.runS (As := [.long (lN n)]) (rest := [.ref w]) ⟨hx, hb, hml, hown, hts⟩ (c_X8_lengthOf (l := l) (D := D) (n := n) (hn := by omega) (hw := by omega)) (va_cwS 1 hts gX8_init_X8_lengthOf rfl rfl rfl (by decide +kernel) ⟨Nat.le_of_ble_eq_true rfl, Nat.le_of_ble_eq_true rfl⟩) ⟨qP_blind, (qP_of (q_Pof (fun _ h => absurd h List.not_mem_nil)) (hK.sub (tys' := []) [] rfl) hNw)⟩ rfl rfl hl.1 rfl (lv_room (Nat.le_of_ble_eq_true rfl)) dX8_init_11 ⟨Nat.le_of_ble_eq_true rfl, Nat.le_of_ble_eq_true rfl⟩) (fun r_3 hr_3 => ?_)
  subst hr_3
  refine va_putF (D := D) (ci := 7) (v := .int (nI (wl n))) (ty := .int) (C := RX8) (T := TX8) (N := 3) hx hb hts iX8_init_X8 tyX8 tyX8_ok nmX8 hown hK hP hD hS 0 rfl rfl 1 (by decide) (hts (.fieldLink RX8 19 "FuzzyFens$Word" "length" "I") (List.mem_of_getElem? (i := 5) rfl)) (fun _ h9 => h9) rfl hin rfl (by decide +kernel) rfl rfl (Nat.le_of_ble_eq_true rfl) dX8_init_14 (fun H_4 locs_5 hP hD hS => ?_)
  have hP : va_P D vwCl [(w, .inr (7, [.long (lN n), .int (nI (wl n)), .long 0]))] H_4 := hP
  have hD : va_D A [(w, .inr (7, [.long (lN n), .int (nI (wl n)), .long 0]))] := hD
  have hR := q_ro hR0 hna hS
  refine lv_aload_n hx hb dX8_init_17 rfl (lv_at hl 0 rfl) ?_
  refine lv_lload_n hx hb dX8_init_18 rfl (lv_at hl 1 rfl) ?_
  refine lv_iconst (v := nI 5) hx hb dX8_init_19 (by decide) ?_
  refine lv_bipush (v := nI 10) hx hb dX8_init_20 (by decide) ?_
  refine lv_aload_n hx hb dX8_init_22 rfl (lv_at hl 0 rfl) ?_
  refine va_get (D := D) (own := RX8) (ref := "FuzzyFens$Word") (ci := 7) (v := .int (nI (wl n))) (C := RX8) (T := TX8) (N := 3) hx hb hts iX8_init_X8 hown hK hP 0 rfl rfl 1 (by decide) (hts (.fieldLink RX8 19 "FuzzyFens$Word" "length" "I") (List.mem_of_getElem? (i := 5) rfl)) (fun _ h9 => h9) rfl dX8_init_23 ?_
  refine q_isub (d := 10 - wl n) hx hb dX8_init_26 (by omega) ?_
  refine q_imul (d := 50 - 5 * (wl n)) hx hb dX8_init_27 (by omega) ?_
  refine lv_lshl (v := lN (al n)) hx hb dX8_init_28 ((q_shl5 (e := 10 - wl n) (by omega) (by omega)).trans rfl) ?_
  refine va_putF (D := D) (ci := 7) (v := .long (lN (al n))) (ty := .long) (C := RX8) (T := TX8) (N := 3) hx hb hts iX8_init_X8 tyX8 tyX8_ok nmX8 hown hK hP hD hS 0 rfl rfl 2 (by decide) (hts (.fieldLink RX8 23 "FuzzyFens$Word" "alphabetical" "J") (List.mem_of_getElem? (i := 6) rfl)) (fun _ h9 => h9) rfl hin rfl (by decide +kernel) rfl rfl (Nat.le_of_ble_eq_true rfl) dX8_init_29 (fun H_6 locs_7 hP hD hS => ?_)
  have hP : va_P D vwCl [(w, .inr (7, [.long (lN n), .int (nI (wl n)), .long (lN (al n))]))] H_6 := hP
  have hD : va_D A [(w, .inr (7, [.long (lN n), .int (nI (wl n)), .long (lN (al n))]))] := hD
  have hR := q_ro hR0 hna hS
  exact W.vret hx hb hr (fun t9 ht hW => ⟨⟨(), rfl, trivial, by show va_P D vwCl _ t9.heap; rw [ht]; exact hP⟩, hS.F ht⟩) hS.2.2 dX8_init_32

set_option maxRecDepth 20000 in
theorem iX8_letterAt_X8 : ∀ w ∈ wsX80, w ∈ wsX8_letterAt := by decide +kernel
set_option maxHeartbeats 4000000 in
set_option maxRecDepth 100000 in
/-- Word.letterAt -/
theorem c_X8_letterAt (l : Launch) (D : va_G) (w : Nat) (n : Nat) (p : Nat) (hg : gw n) (hp : p < 2 ^ 31) : Met l yX8_letterAt wsX8_letterAt { frames := 0, cells := 0, slots := 0, locals := 0 } (va_Pc [.ref w, .int (nI p)] (qP D ([(w, .inr (7, [.long (lN n), .int (nI (wl n)), .long (lN (al n))]))]) [])) (vp_Si (fun rv : Int32 => rv = nI (ltz n p))) 0 0 (fun _ => False) := by
  refine Met.ofW (cc := cX8_letterAt) (maxL := 3) (ret := (some .int)) (by decide) rfl ?_
  intro pM eM s mi9 argsM belowM methM cM sM B hml hv
  obtain ⟨rfl, hR, hK, hNw⟩ := hv
  have hx := B.exec
  have hb := B.bytes
  have hr := B.returns
  have hts := atoms_spec (ws := wsX8_letterAt) B.pre
  have hown : s.vm.findClass RX8 = some mi9.cls := findClass_of_methodNamed B.named
  have hlocks := B.notSynchronized
  have hS : va_S (fun _ => False) s.heap s.heap [] := va_S.rf
  have hR : va_P D vwCl ([(w, .inr (7, [.long (lN n), .int (nI (wl n)), .long (lN (al n))]))]) s.heap := hR
  have hl := lv_entry ([.ref w, .int (nI p)]) (n := 3) (Nat.le_of_ble_eq_true rfl)
  rw [lg_entry_eq]
  generalize (lg_sl ([.ref w, .int (nI p)]) ++ List.replicate (3 - (lg_sl ([.ref w, .int (nI p)])).length) Slot.unset).toArray = ls at hl ⊢
  have hl : lv_has ls 3 [(0, .ref w), (1, .int (nI p))] := hl
  have hwl := gw_wl hg
  have hlt := gw_lt hg
  refine lv_iload_n hx hb dX8_letterAt_0 rfl (lv_at hl 1 rfl) ?_
  refine q_if_lt (a := p) (tgt := 12) hx hb dX8_letterAt_1 (by decide) (by omega) ?_
  refine lv_iload_n hx hb dX8_letterAt_4 rfl (lv_at hl 1 rfl) ?_
  refine lv_aload_n hx hb dX8_letterAt_5 rfl (lv_at hl 0 rfl) ?_
  refine va_get (D := D) (own := RX8) (ref := "FuzzyFens$Word") (ci := 7) (v := .int (nI (wl n))) (C := RX8) (T := TX8) (N := 3) hx hb hts iX8_letterAt_X8 hown hK hR 0 rfl rfl 1 (by decide) (hts (.fieldLink RX8 19 "FuzzyFens$Word" "length" "I") (List.mem_of_getElem? (i := 1) rfl)) (fun _ h9 => h9) rfl dX8_letterAt_6 ?_
  refine q_icmp_lt (a := p) (b := wl n) (tgt := 14) hx hb dX8_letterAt_9 (by decide) (by omega) (by omega) (fun c_9 => ?_) (fun c_9 => ?_)
  · skip
    refine lv_iconst (v := nI 5) hx hb dX8_letterAt_14 (by decide) ?_
    refine lv_aload_n hx hb dX8_letterAt_15 rfl (lv_at hl 0 rfl) ?_
    refine va_get (D := D) (own := RX8) (ref := "FuzzyFens$Word") (ci := 7) (v := .int (nI (wl n))) (C := RX8) (T := TX8) (N := 3) hx hb hts iX8_letterAt_X8 hown hK hR 0 rfl rfl 1 (by decide) (hts (.fieldLink RX8 19 "FuzzyFens$Word" "length" "I") (List.mem_of_getElem? (i := 1) rfl)) (fun _ h9 => h9) rfl dX8_letterAt_16 ?_
    refine lv_iconst (v := nI 1) hx hb dX8_letterAt_19 (by decide) ?_
    refine q_isub (d := wl n - 1) hx hb dX8_letterAt_20 (by omega) ?_
    refine lv_iload_n hx hb dX8_letterAt_21 rfl (lv_at hl 1 rfl) ?_
    refine q_isub (d := wl n - p - 1) hx hb dX8_letterAt_22 (by omega) ?_
    refine q_imul (d := 5 * (wl n) - 5 * p - 5) hx hb dX8_letterAt_23 (by omega) ?_
    refine lv_istore_n (lv' := [(2, .int (nI (5 * (wl n) - 5 * p - 5))), (0, .ref w), (1, .int (nI p))]) hx hb dX8_letterAt_24 rfl hl (by decide) rfl (fun ls hl => ?_)
    refine lv_aload_n hx hb dX8_letterAt_25 rfl (lv_at hl 1 rfl) ?_
    refine va_get (D := D) (own := RX8) (ref := "FuzzyFens$Word") (ci := 7) (v := .long (lN n)) (C := RX8) (T := TX8) (N := 3) hx hb hts iX8_letterAt_X8 hown hK hR 0 rfl rfl 0 (by decide) (hts (.fieldLink RX8 9 "FuzzyFens$Word" "number" "J") (List.mem_of_getElem? (i := 2) rfl)) (fun _ h9 => h9) rfl dX8_letterAt_26 ?_
    refine lv_iload_n hx hb dX8_letterAt_29 rfl (lv_at hl 0 rfl) ?_
    refine lv_lushr (v := lN (n / 32 ^ (wl n - 1 - p))) hx hb dX8_letterAt_30 (q_shr5 (by omega) (by omega) (by omega)) ?_
    refine lv_ldc2 (v := 31) hx hb hown (hts (.constantLong RX8 26 (31)) (List.mem_of_getElem? (i := 3) rfl)) dX8_letterAt_31 ?_
    refine q_cvl (show (31 : Int64) = lN 31 by decide) ?_
    refine lv_land hx hb dX8_letterAt_34 ?_
    refine q_cvl (show ((lN (n / 32 ^ (wl n - 1 - p))) &&& (lN 31)) = (lN (lt n p)) from q_m31 (Nat.lt_of_le_of_lt (Nat.div_le_self _ _) (by omega))) ?_
    refine lv_l2i (v := nI (lt n p)) hx hb dX8_letterAt_35 (lN_i _) ?_
    exact W.iret (v := nI (lt n p)) hx hb hr (fun t9 ht _ => ⟨nI (lt n p), rfl, (by rw [ltz_in (by omega)]), ht⟩) (fun _ h => absurd h List.not_mem_nil) dX8_letterAt_36
  · skip
    refine lv_iconst (v := nI 0) hx hb dX8_letterAt_12 (by decide) ?_
    exact W.iret (v := nI 0) hx hb hr (fun t9 ht _ => ⟨nI 0, rfl, (by rw [ltz_out (by omega)]), ht⟩) (fun _ h => absurd h List.not_mem_nil) dX8_letterAt_13

set_option maxHeartbeats 4000000 in
set_option maxRecDepth 100000 in
/-- Word.letterAt, ahead of the first -/
theorem c_X8_letterAt_m (l : Launch) (D : va_G) (w : Nat) (n : Nat)  : Met l yX8_letterAt wsX8_letterAt { frames := 0, cells := 0, slots := 0, locals := 0 } (va_Pc [.ref w, .int ((-1))] (qP D ([(w, .inr (7, [.long (lN n), .int (nI (wl n)), .long (lN (al n))]))]) [])) (vp_Si (fun rv : Int32 => rv = nI 0)) 0 0 (fun _ => False) := by
  refine Met.ofW (cc := cX8_letterAt) (maxL := 3) (ret := (some .int)) (by decide) rfl ?_
  intro pM eM s mi9 argsM belowM methM cM sM B hml hv
  obtain ⟨rfl, hR, hK, hNw⟩ := hv
  have hx := B.exec
  have hb := B.bytes
  have hr := B.returns
  have hts := atoms_spec (ws := wsX8_letterAt) B.pre
  have hown : s.vm.findClass RX8 = some mi9.cls := findClass_of_methodNamed B.named
  have hlocks := B.notSynchronized
  have hS : va_S (fun _ => False) s.heap s.heap [] := va_S.rf
  have hR : va_P D vwCl ([(w, .inr (7, [.long (lN n), .int (nI (wl n)), .long (lN (al n))]))]) s.heap := hR
  have hl := lv_entry ([.ref w, .int ((-1))]) (n := 3) (Nat.le_of_ble_eq_true rfl)
  rw [lg_entry_eq]
  generalize (lg_sl ([.ref w, .int ((-1))]) ++ List.replicate (3 - (lg_sl ([.ref w, .int ((-1))])).length) Slot.unset).toArray = ls at hl ⊢
  have hl : lv_has ls 3 [(0, .ref w), (1, .int ((-1)))] := hl
  refine lv_iload_n hx hb dX8_letterAt_0 rfl (lv_at hl 1 rfl) ?_
  refine lv_if_lt (tgt := 12) hx hb dX8_letterAt_1 (by decide) (fun _ => ?_) (fun c9 => absurd (by decide) c9)
  refine lv_iconst (v := nI 0) hx hb dX8_letterAt_12 (by decide) ?_
  exact W.iret (v := nI 0) hx hb hr (fun t9 ht _ => ⟨nI 0, rfl, rfl, ht⟩) (fun _ h => absurd h List.not_mem_nil) dX8_letterAt_13

set_option maxHeartbeats 4000000 in
set_option maxRecDepth 100000 in
/-- Word.without -/
theorem c_X8_without (l : Launch) (D : va_G) (n : Nat) (p : Nat) (hn : n < 2 ^ 50) (hp : p < 10) : Met l yX8_without wsX8_without { frames := 0, cells := 0, slots := 0, locals := 0 } (va_Pc [.long (lN n), .int (nI p)] (qP D ([]) [])) (vp_Sl (fun rv : Int64 => rv = lN (wo n p))) 0 0 (fun _ => False) := by
  refine Met.ofW (cc := cX8_without) (maxL := 8) (ret := (some .long)) (by decide) rfl ?_
  intro pM eM s mi9 argsM belowM methM cM sM B hml hv
  obtain ⟨rfl, hR, hK, hNw⟩ := hv
  have hx := B.exec
  have hb := B.bytes
  have hr := B.returns
  have hts := atoms_spec (ws := wsX8_without) B.pre
  have hown : s.vm.findClass RX8 = some mi9.cls := findClass_of_methodNamed B.named
  have hlocks := B.notSynchronized
  have hS : va_S (fun _ => False) s.heap s.heap [] := va_S.rf
  have hR : va_P D vwCl ([]) s.heap := hR
  have hl := lv_entry ([.long (lN n), .int (nI p)]) (n := 8) (Nat.le_of_ble_eq_true rfl)
  rw [lg_entry_eq]
  generalize (lg_sl ([.long (lN n), .int (nI p)]) ++ List.replicate (8 - (lg_sl ([.long (lN n), .int (nI p)])).length) Slot.unset).toArray = ls at hl ⊢
  have hl : lv_has ls 8 [(0, .long (lN n)), (2, .int (nI p))] := hl
  refine lv_iconst (v := nI 5) hx hb dX8_without_0 (by decide) ?_
  refine lv_iload_n hx hb dX8_without_1 rfl (lv_at hl 1 rfl) ?_
  refine q_imul (d := 5 * p) hx hb dX8_without_2 (by omega) ?_
  refine lv_istore_n (lv' := [(3, .int (nI (5 * p))), (0, .long (lN n)), (2, .int (nI p))]) hx hb dX8_without_3 rfl hl (by decide) rfl (fun ls hl => ?_)
  refine lv_lload_n hx hb dX8_without_4 rfl (lv_at hl 1 rfl) ?_
  refine lv_iload_n hx hb dX8_without_5 rfl (lv_at hl 0 rfl) ?_
  refine lv_iconst (v := nI 5) hx hb dX8_without_6 (by decide) ?_
  refine q_iadd (d := 5 * p + 5) hx hb dX8_without_7 (by omega) ?_
  refine lv_lushr (v := lN (n / 32 ^ (p + 1))) hx hb dX8_without_8 (q_shr5 (by omega) (by omega) (by omega)) ?_
  refine lv_lstore (lv' := [(4, .long (lN (n / 32 ^ (p + 1)))), (3, .int (nI (5 * p))), (0, .long (lN n)), (2, .int (nI p))]) hx hb dX8_without_9 hl (by decide) rfl (fun ls hl => ?_)
  refine lv_lload_n hx hb dX8_without_11 rfl (lv_at hl 2 rfl) ?_
  refine lv_lconst (v := lN 1) hx hb dX8_without_12 (by decide) ?_
  refine lv_iload_n hx hb dX8_without_13 rfl (lv_at hl 1 rfl) ?_
  refine lv_lshl (v := lN (32 ^ p)) hx hb dX8_without_14 ((q_shl5 (n := 1) (e := p) (by omega) (by omega)).trans (by rw [Nat.one_mul])) ?_
  refine lv_lconst (v := lN 1) hx hb dX8_without_15 (by decide) ?_
  refine lv_lsub hx hb dX8_without_16 ?_
  refine q_cvl (show ((lN (32 ^ p)) - (lN 1)) = (lN (32 ^ p - 1)) from q_lsub1 (Nat.pow_pos (by decide))) ?_
  refine lv_land hx hb dX8_without_17 ?_
  refine q_cvl (show ((lN n) &&& (lN (32 ^ p - 1))) = (lN (n % 32 ^ p)) from q_and5 (by omega) (by omega)) ?_
  refine lv_lstore (lv' := [(6, .long (lN (n % 32 ^ p))), (4, .long (lN (n / 32 ^ (p + 1)))), (3, .int (nI (5 * p))), (0, .long (lN n)), (2, .int (nI p))]) hx hb dX8_without_18 hl (by decide) rfl (fun ls hl => ?_)
  refine lv_lload hx hb dX8_without_20 (lv_at hl 1 rfl) ?_
  refine lv_iload_n hx hb dX8_without_22 rfl (lv_at hl 2 rfl) ?_
  refine lv_lshl (v := lN ((n / 32 ^ (p + 1)) * (32 ^ p))) hx hb dX8_without_23 (q_shl5 (by omega) (by omega)) ?_
  refine lv_lload hx hb dX8_without_24 (lv_at hl 0 rfl) ?_
  refine lv_lor hx hb dX8_without_26 ?_
  refine q_cvl (show ((lN ((n / 32 ^ (p + 1)) * (32 ^ p))) ||| (lN (n % 32 ^ p))) = (lN (wo n p)) from q_or5 (Nat.mod_lt _ (Nat.pow_pos (by decide))) (Nat.lt_of_le_of_lt (wo_lt (n := n) (p := p)) (by omega))) ?_
  exact W.lret (v := lN (wo n p)) hx hb hr (fun t9 ht _ => ⟨lN (wo n p), rfl, rfl, ht⟩) (fun _ h => absurd h List.not_mem_nil) dX8_without_27

/-- letters that two words have in common at their beginnings -/
def shr (a b : Nat) : Nat → Nat → Nat
  | 0, k => k
  | f + 1, k => if k < wl a ∧ ltz a k = ltz b k then shr a b f (k + 1) else k

set_option maxRecDepth 20000 in
theorem iX8_beginningSharedWith_X8 : ∀ w ∈ wsX80, w ∈ wsX8_beginningSharedWith := by decide +kernel
set_option maxHeartbeats 4000000 in
set_option maxRecDepth 100000 in
/-- Word.beginningSharedWith -/
theorem c_X8_beginningSharedWith (l : Launch) (D : va_G) (w : Nat) (v : Nat) (a : Nat) (b : Nat) (hga : gw a) (hgb : gw b) : Met l yX8_beginningSharedWith wsX8_beginningSharedWith { frames := 1, cells := 0, slots := 0, locals := 22 } (va_Pc [.ref w, .ref v] (qP D ([(w, .inr (7, [.long (lN a), .int (nI (wl a)), .long (lN (al a))])), (v, .inr (7, [.long (lN b), .int (nI (wl b)), .long (lN (al b))]))]) [])) (vp_Si (fun rv : Int32 => rv = nI (shr a b 10 0))) 0 0 (fun _ => False) := by
  refine Met.ofW (cc := cX8_beginningSharedWith) (maxL := 3) (ret := (some .int)) (by decide) rfl ?_
  intro pM eM s mi9 argsM belowM methM cM sM B hml hv
  obtain ⟨rfl, hR, hK, hNw⟩ := hv
  have hx := B.exec
  have hb := B.bytes
  have hr := B.returns
  have hts := atoms_spec (ws := wsX8_beginningSharedWith) B.pre
  have hown : s.vm.findClass RX8 = some mi9.cls := findClass_of_methodNamed B.named
  have hlocks := B.notSynchronized
  have hS : va_S (fun _ => False) s.heap s.heap [] := va_S.rf
  have hR : va_P D vwCl ([(w, .inr (7, [.long (lN a), .int (nI (wl a)), .long (lN (al a))])), (v, .inr (7, [.long (lN b), .int (nI (wl b)), .long (lN (al b))]))]) s.heap := hR
  have hl := lv_entry ([.ref w, .ref v]) (n := 3) (Nat.le_of_ble_eq_true rfl)
  rw [lg_entry_eq]
  generalize (lg_sl ([.ref w, .ref v]) ++ List.replicate (3 - (lg_sl ([.ref w, .ref v])).length) Slot.unset).toArray = ls at hl ⊢
  have hl : lv_has ls 3 [(0, .ref w), (1, .ref v)] := hl
  have hwl := gw_wl hga
  refine lv_iconst (v := nI 0) hx hb dX8_beginningSharedWith_0 (by decide) ?_
  refine lv_istore_n (lv' := [(2, .int (nI 0)), (0, .ref w), (1, .ref v)]) hx hb dX8_beginningSharedWith_1 rfl hl (by decide) rfl (fun ls hl => ?_)
  refine q_loop (fun (x : (Nat)) (Hc : Heap) (Lc : List Loc) (ls : Array Slot) => match x with | k => (k ≤ 10) ∧ (shr a b (10 - k) k = shr a b 10 0) ∧ s.heap = Hc ∧ [] = Lc ∧ lv_has ls 3 [(2, .int (nI k)), (0, .ref w), (1, .ref v)]) (fun (x : (Nat)) => match x with | k => 10 - k) 0 ⟨(by omega), rfl, rfl, rfl, (lv_sub hl [0, 1, 2] rfl)⟩ ?_
  clear hl
  rintro k Hc Lc ls hI ih_2
  obtain ⟨hk, hs, rfl, rfl, hl⟩ := hI
  refine lv_iload_n hx hb dX8_beginningSharedWith_2 rfl (lv_at hl 0 rfl) ?_
  refine lv_aload_n hx hb dX8_beginningSharedWith_3 rfl (lv_at hl 1 rfl) ?_
  refine va_get (D := D) (own := RX8) (ref := "FuzzyFens$Word") (ci := 7) (v := .int (nI (wl a))) (C := RX8) (T := TX8) (N := 3) hx hb hts iX8_beginningSharedWith_X8 hown hK hR 0 rfl rfl 1 (by decide) (hts (.fieldLink RX8 19 "FuzzyFens$Word" "length" "I") (List.mem_of_getElem? (i := 1) rfl)) (fun _ h9 => h9) rfl dX8_beginningSharedWith_4 ?_
  refine q_icmp_ge (a := k) (b := wl a) (tgt := 29) hx hb dX8_beginningSharedWith_7 (by decide) (by omega) (by omega) (fun c_7 => ?_) (fun c_7 => ?_)
  · skip
    refine lv_iload_n hx hb dX8_beginningSharedWith_29 rfl (lv_at hl 0 rfl) ?_
    exact W.iret (v := nI k) hx hb hr (fun t9 ht _ => ⟨nI k, rfl, (by rw [← hs]; cases h9 : 10 - k with | zero => rfl | succ m => rw [shr, if_neg (by omega)]), ht⟩) (fun _ h => absurd h List.not_mem_nil) dX8_beginningSharedWith_30
  · skip
    refine lv_aload_n hx hb dX8_beginningSharedWith_10 rfl (lv_at hl 1 rfl) ?_
    refine lv_iload_n hx hb dX8_beginningSharedWith_11 rfl (lv_at hl 0 rfl) ?_
    refine vp_callSi (W.runV (As := [.int (nI k)]) (rest := []) ⟨hx, hb, hml, hown, hts⟩ (c_X8_letterAt (l := l) (D := D) (w := w) (n := a) (p := k) (hg := hga) (hp := by omega)) (cwV 1 hts gX8_beginningSharedWith_X8_letterAt rfl rfl rfl (by decide +kernel) ⟨Nat.le_of_ble_eq_true rfl, Nat.le_of_ble_eq_true rfl⟩) ⟨qP_blind, (va_recv hK hR (ci := 7) (q0 := 0) rfl rfl), (qP_of (hR.sub (ws' := [(w, .inr (7, [.long (lN a), .int (nI (wl a)), .long (lN (al a))]))]) [0] rfl) (hK.sub (tys' := []) [] rfl) hNw)⟩ rfl rfl hl.1 rfl (lv_room (Nat.le_of_ble_eq_true rfl)) dX8_beginningSharedWith_12 ⟨Nat.le_of_ble_eq_true rfl, Nat.le_of_ble_eq_true rfl⟩) (fun r_1 hr_1 => ?_)
    subst hr_1
    refine lv_aload_n hx hb dX8_beginningSharedWith_15 rfl (lv_at hl 2 rfl) ?_
    refine lv_iload_n hx hb dX8_beginningSharedWith_16 rfl (lv_at hl 0 rfl) ?_
    refine vp_callSi (W.runV (As := [.int (nI k)]) (rest := [.int (nI (ltz a k))]) ⟨hx, hb, hml, hown, hts⟩ (c_X8_letterAt (l := l) (D := D) (w := v) (n := b) (p := k) (hg := hgb) (hp := by omega)) (cwV 1 hts gX8_beginningSharedWith_X8_letterAt rfl rfl rfl (by decide +kernel) ⟨Nat.le_of_ble_eq_true rfl, Nat.le_of_ble_eq_true rfl⟩) ⟨qP_blind, (va_recv hK hR (ci := 7) (q0 := 1) rfl rfl), (qP_of (hR.sub (ws' := [(v, .inr (7, [.long (lN b), .int (nI (wl b)), .long (lN (al b))]))]) [1] rfl) (hK.sub (tys' := []) [] rfl) hNw)⟩ rfl rfl hl.1 rfl (lv_room (Nat.le_of_ble_eq_true rfl)) dX8_beginningSharedWith_17 ⟨Nat.le_of_ble_eq_true rfl, Nat.le_of_ble_eq_true rfl⟩) (fun r_2 hr_2 => ?_)
    subst hr_2
    refine q_icmp_ne (a := ltz a k) (b := ltz b k) (tgt := 29) hx hb dX8_beginningSharedWith_20 (by decide) (by have := ltz_32 a k; omega) (by have := ltz_32 b k; omega) (fun c_20 => ?_) (fun c_20 => ?_)
    · skip
      refine lv_iload_n hx hb dX8_beginningSharedWith_29 rfl (lv_at hl 0 rfl) ?_
      exact W.iret (v := nI k) hx hb hr (fun t9 ht _ => ⟨nI k, rfl, (by rw [← hs, show 10 - k = (10 - (k + 1)) + 1 by omega, shr, if_neg (fun h => c_20 h.2)]), ht⟩) (fun _ h => absurd h List.not_mem_nil) dX8_beginningSharedWith_30
    · skip
      refine lv_iinc (v := nI (k + 1)) (lv' := [(2, .int (nI (k + 1))), (0, .ref w), (1, .ref v)]) hx hb dX8_beginningSharedWith_23 hl (k := 0) rfl (q_inc (k := 1) (by omega)) (by decide) rfl (fun ls hl => ?_)
      refine lv_goto (tgt := 2) hx hb dX8_beginningSharedWith_26 (by decide) ?_
      exact ih_2 (k + 1) _ _ _ ⟨(by omega), (by rw [← hs, show 10 - k = (10 - (k + 1)) + 1 by omega]; exact (if_pos ⟨c_7, c_20⟩).symm), rfl, rfl, (lv_sub hl [0, 1, 2] rfl)⟩ (by show 10 - (k + 1) < 10 - k; omega)
