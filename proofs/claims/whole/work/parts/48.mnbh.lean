set_option maxHeartbeats 4000000 in
set_option maxRecDepth 100000 in
/-- without -/
theorem c_X10_without (l : Launch) (D : va_G) (a : Nat) (p9 : Nat) (q9 : Nat) (ha : a < 2 ^ 50) (hw : wl a ≤ 10) (hp9 : p9 < 2 ^ 31) (hq9 : q9 < 2 ^ 31) : Met l yX10_without wsX10_without { frames := 2, cells := 0, slots := 0, locals := 49 } (va_Pc [.long (lN a), .int (nI p9), .int (nI q9)] (qP D ([]) [])) (vp_Sl (fun rv : Int64 => rv = lN (wof a p9 q9 (wl a)))) 0 0 (fun _ => False) := by
  refine Met.ofW (cc := cX10_without) (maxL := 10) (ret := (some .long)) (by decide) rfl ?_
  intro pM eM s mi9 argsM belowM methM cM sM B hml hv
  obtain ⟨rfl, hR, hK, hNw⟩ := hv
  have hx := B.exec
  have hb := B.bytes
  have hr := B.returns
  have hts := atoms_spec (ws := wsX10_without) B.pre
  have hown : s.vm.findClass RX10 = some mi9.cls := findClass_of_methodNamed B.named
  have hlocks := B.notSynchronized
  have hS : va_S (fun _ => False) s.heap s.heap [] := va_S.rf
  have hR : va_P D vwCl ([]) s.heap := hR
  have hl := lv_entry ([.long (lN a), .int (nI p9), .int (nI q9)]) (n := 10) (Nat.le_of_ble_eq_true rfl)
  rw [lg_entry_eq]
  generalize (lg_sl ([.long (lN a), .int (nI p9), .int (nI q9)]) ++ List.replicate (10 - (lg_sl ([.long (lN a), .int (nI p9), .int (nI q9)])).length) Slot.unset).toArray = ls at hl ⊢
  have hl : lv_has ls 10 [(0, .long (lN a)), (2, .int (nI p9)), (3, .int (nI q9))] := hl
  refine lv_lload_n hx hb dX10_without_0 rfl (lv_at hl 0 rfl) ?_
  refine vp_callSi (W.runS (As := [.long (lN a)]) (rest := []) ⟨hx, hb, hml, hown, hts⟩ (c_X10_lengthOf (l := l) (D := D) (a := a) (ha := by omega)) (va_cwS 1 hts gX10_without_X10_lengthOf rfl rfl rfl (by decide +kernel) ⟨Nat.le_of_ble_eq_true rfl, Nat.le_of_ble_eq_true rfl⟩) ⟨qP_blind, (qP_of (q_Pof (fun _ h => absurd h List.not_mem_nil)) (hK.sub (tys' := []) [] rfl) hNw)⟩ rfl rfl hl.1 rfl (lv_room (Nat.le_of_ble_eq_true rfl)) dX10_without_1 ⟨Nat.le_of_ble_eq_true rfl, Nat.le_of_ble_eq_true rfl⟩) (fun r_1 hr_1 => ?_)
  subst hr_1
  refine lv_istore (lv' := [(4, .int (nI (wl a))), (0, .long (lN a)), (2, .int (nI p9)), (3, .int (nI q9))]) hx hb dX10_without_4 hl (by decide) rfl (fun ls hl => ?_)
  refine lv_lconst (v := lN 0) hx hb dX10_without_6 (by decide) ?_
  refine lv_lstore (lv' := [(5, .long (lN 0)), (4, .int (nI (wl a))), (0, .long (lN a)), (2, .int (nI p9)), (3, .int (nI q9))]) hx hb dX10_without_7 hl (by decide) rfl (fun ls hl => ?_)
  refine lv_iconst (v := nI 1) hx hb dX10_without_9 (by decide) ?_
  refine lv_istore (lv' := [(7, .int (nI 1)), (5, .long (lN 0)), (4, .int (nI (wl a))), (0, .long (lN a)), (2, .int (nI p9)), (3, .int (nI q9))]) hx hb dX10_without_10 hl (by decide) rfl (fun ls hl => ?_)
  refine q_loop (fun (x : (Nat)) (Hc : Heap) (Lc : List Loc) (ls : Array Slot) => match x with | t => (t ≤ wl a) ∧ s.heap = Hc ∧ [] = Lc ∧ lv_has ls 10 [(7, .int (nI (t + 1))), (5, .long (lN (wof a p9 q9 t))), (4, .int (nI (wl a))), (0, .long (lN a)), (2, .int (nI p9)), (3, .int (nI q9))]) (fun (x : (Nat)) => match x with | t => wl a - t) 0 ⟨(by omega), rfl, rfl, (lv_sub hl [0, 1, 2, 3, 4, 5] rfl)⟩ ?_
  clear hl
  rintro t Hc Lc ls hI ih_12
  obtain ⟨ht9, rfl, rfl, hl⟩ := hI
  refine lv_iload hx hb dX10_without_12 (lv_at hl 0 rfl) ?_
  refine lv_iload hx hb dX10_without_14 (lv_at hl 2 rfl) ?_
  refine q_icmp_gt (a := t + 1) (b := wl a) (tgt := 65) hx hb dX10_without_16 (by decide) (by omega) (by omega) (fun c_16 => ?_) (fun c_16 => ?_)
  · skip
    refine lv_lload hx hb dX10_without_65 (lv_at hl 1 rfl) ?_
    exact W.lret (v := lN (wof a p9 q9 t)) hx hb hr (fun t9 ht _ => ⟨lN (wof a p9 q9 t), rfl, (by rw [show t = wl a by omega]), ht⟩) (fun _ h => absurd h List.not_mem_nil) dX10_without_67
  · skip
    refine lv_lload_n hx hb dX10_without_19 rfl (lv_at hl 3 rfl) ?_
    refine lv_iload hx hb dX10_without_20 (lv_at hl 0 rfl) ?_
    refine vp_callSl (W.runS (As := [.long (lN a), .int (nI (t + 1))]) (rest := []) ⟨hx, hb, hml, hown, hts⟩ (c_X10_beginning (l := l) (D := D) (a := a) (k := t + 1) (ha := by omega) (hw := by omega) (hk := by omega)) (va_cwS 2 hts gX10_without_X10_beginning rfl rfl rfl (by decide +kernel) ⟨Nat.le_of_ble_eq_true rfl, Nat.le_of_ble_eq_true rfl⟩) ⟨qP_blind, (qP_of (q_Pof (fun _ h => absurd h List.not_mem_nil)) (hK.sub (tys' := []) [] rfl) hNw)⟩ rfl rfl hl.1 rfl (lv_room (Nat.le_of_ble_eq_true rfl)) dX10_without_22 ⟨Nat.le_of_ble_eq_true rfl, Nat.le_of_ble_eq_true rfl⟩) (fun r_2 hr_2 => ?_)
    subst hr_2
    refine lv_ldc2 (v := 32) hx hb hown (hts (.constantLong RX10 48 (32)) (List.mem_of_getElem? (i := 1) rfl)) dX10_without_25 ?_
    refine q_cvl (show (32 : Int64) = lN 32 by decide) ?_
    refine lv_lrem hx hb dX10_without_28 (by decide) ?_
    refine q_cvl (pk_lRem (by have := beg_lt (n := a) (k := t + 1); omega) (by decide) (by decide)) ?_
    refine lv_lstore (lv' := [(8, .long (lN ((beg a (t + 1)) % 32))), (7, .int (nI (t + 1))), (5, .long (lN (wof a p9 q9 t))), (4, .int (nI (wl a))), (0, .long (lN a)), (2, .int (nI p9)), (3, .int (nI q9))]) hx hb dX10_without_29 hl (by decide) rfl (fun ls hl => ?_)
    refine q_cut 57 (fun (x : (Nat)) (Hc : Heap) (Lc : List Loc) (ls : Array Slot) (st : List Value) => match x with | y => (y = wof a p9 q9 (t + 1)) ∧ s.heap = Hc ∧ [] = Lc ∧ lv_has ls 10 [(8, .long (lN ((beg a (t + 1)) % 32))), (7, .int (nI (t + 1))), (5, .long (lN (wof a p9 q9 t))), (4, .int (nI (wl a))), (0, .long (lN a)), (2, .int (nI p9)), (3, .int (nI q9))] ∧ [.long (lN y)] = st) ?_ ?_
    · clear hl
      rintro y Hc Lc ls st hI
      obtain ⟨hy, rfl, rfl, hl, rfl⟩ := hI
      refine lv_lstore (lv' := [(5, .long (lN y)), (8, .long (lN ((beg a (t + 1)) % 32))), (7, .int (nI (t + 1))), (4, .int (nI (wl a))), (0, .long (lN a)), (2, .int (nI p9)), (3, .int (nI q9))]) hx hb dX10_without_57 hl (by decide) rfl (fun ls hl => ?_)
      refine lv_iinc (v := nI (t + 2)) (lv' := [(7, .int (nI (t + 2))), (5, .long (lN y)), (8, .long (lN ((beg a (t + 1)) % 32))), (4, .int (nI (wl a))), (0, .long (lN a)), (2, .int (nI p9)), (3, .int (nI q9))]) hx hb dX10_without_59 hl (k := 2) rfl (q_inc (k := 1) (by omega)) (by decide) rfl (fun ls hl => ?_)
      refine lv_goto (tgt := 12) hx hb dX10_without_62 (by decide) ?_
      rw [hy] at hl
      exact ih_12 (t + 1) _ _ _ ⟨(by omega), rfl, rfl, (lv_sub hl [0, 1, 3, 4, 5, 6] rfl)⟩ (by show wl a - (t + 1) < wl a - t; omega)
    · intro hcut_57
      refine lv_iload hx hb dX10_without_31 (lv_at hl 1 rfl) ?_
      refine lv_iload_n hx hb dX10_without_33 rfl (lv_at hl 5 rfl) ?_
      refine q_icmp_eq (a := t + 1) (b := p9) (tgt := 43) hx hb dX10_without_34 (by decide) (by omega) (by omega) (fun c_34 => ?_) (fun c_34 => ?_)
      · skip
        refine lv_lload hx hb dX10_without_43 (lv_at hl 2 rfl) ?_
        refine lv_goto (tgt := 57) hx hb dX10_without_45 (by decide) ?_
        exact hcut_57 (wof a p9 q9 t) _ _ _ _ ⟨(if_pos (Or.inl c_34)).symm, rfl, rfl, (lv_sub hl [0, 1, 2, 3, 4, 5, 6] rfl), rfl⟩
      · skip
        refine lv_iload hx hb dX10_without_37 (lv_at hl 1 rfl) ?_
        refine lv_iload_n hx hb dX10_without_39 rfl (lv_at hl 6 rfl) ?_
        refine q_icmp_ne (a := t + 1) (b := q9) (tgt := 48) hx hb dX10_without_40 (by decide) (by omega) (by omega) (fun c_40 => ?_) (fun c_40 => ?_)
        · skip
          refine lv_ldc2 (v := 32) hx hb hown (hts (.constantLong RX10 48 (32)) (List.mem_of_getElem? (i := 1) rfl)) dX10_without_48 ?_
          refine q_cvl (show (32 : Int64) = lN 32 by decide) ?_
          refine lv_lload hx hb dX10_without_51 (lv_at hl 2 rfl) ?_
          refine lv_lmul hx hb dX10_without_53 ?_
          refine q_cvl ((lN_mul _ _).trans (congrArg lN (show _ = 32 * (wof a p9 q9 t) by omega))) ?_
          refine lv_lload hx hb dX10_without_54 (lv_at hl 0 rfl) ?_
          refine lv_ladd hx hb dX10_without_56 ?_
          refine q_cvl ((lN_add _ _).trans (congrArg lN (show _ = 32 * (wof a p9 q9 t) + (beg a (t + 1)) % 32 by omega))) ?_
          exact hcut_57 (32 * (wof a p9 q9 t) + (beg a (t + 1)) % 32) _ _ _ _ ⟨(if_neg (fun h9 => by omega)).symm, rfl, rfl, (lv_sub hl [0, 1, 2, 3, 4, 5, 6] rfl), rfl⟩
        · skip
          refine lv_lload hx hb dX10_without_43 (lv_at hl 2 rfl) ?_
          refine lv_goto (tgt := 57) hx hb dX10_without_45 (by decide) ?_
          exact hcut_57 (wof a p9 q9 t) _ _ _ _ ⟨(if_pos (Or.inr c_40)).symm, rfl, rfl, (lv_sub hl [0, 1, 2, 3, 4, 5, 6] rfl), rfl⟩

set_option maxRecDepth 20000 in
theorem iX10_isOnLeft_X10 : ∀ w ∈ wsX100, w ∈ wsX10_isOnLeft := by decide +kernel
set_option maxHeartbeats 4000000 in
set_option maxRecDepth 100000 in
/-- isOnLeft -/
theorem c_X10_isOnLeft (l : Launch) (D : va_G) (mo : Nat) (mw : Nat) (mct : Nat) (mp : Nat) (mnm : Nat) (m1 : Nat) (m2 : Nat) (mt : Nat) (mk : Nat) (mr : Nat) (ml : Nat) (mq : Nat) (k10 : ClassId) (th : Int32) (n : Nat) (om : Int32) (tm : Int32) (fl : Nat → Int64) (L : List Nat) (v : Nat) (hL : ∀ j, j < List.length L → fl j = lN (List.getD L j 0)) (hLb : ∀ j, j < List.length L → List.getD L j 0 < 2 ^ 50) (hLl : List.length L ≤ 64) (hv9 : v < 2 ^ 63) : Met l yX10_isOnLeft wsX10_isOnLeft { frames := 0, cells := 0, slots := 0, locals := 0 } (va_Pc [.ref mo, .long (lN v), .int (nI (List.length L))] (qP D ([(mo, .inr (9, [.int th, .int (nI n), .ref mw, .ref mct, .ref mp, .ref mnm, .ref m1, .ref m2, .int om, .int tm, .ref mt, .ref mk, .ref mr, .ref ml, .ref mq])), (ml, .inl (k10, 64, .inr (.inl fl)))]) [(k10, .long)])) (vp_Si (fun rv : Int32 => rv = (if v ∈ L then 1 else 0))) 0 0 (fun _ => False) := by
  refine Met.ofW (cc := cX10_isOnLeft) (maxL := 6) (ret := (some .boolean)) (by decide) rfl ?_
  intro pM eM s mi9 argsM belowM methM cM sM B hml hv
  obtain ⟨rfl, hR, hK, hNw⟩ := hv
  have hx := B.exec
  have hb := B.bytes
  have hr := B.returns
  have hts := atoms_spec (ws := wsX10_isOnLeft) B.pre
  have hown : s.vm.findClass RX10 = some mi9.cls := findClass_of_methodNamed B.named
  have hlocks := B.notSynchronized
  have hS : va_S (fun _ => False) s.heap s.heap [] := va_S.rf
  have hR : va_P D vwCl ([(mo, .inr (9, [.int th, .int (nI n), .ref mw, .ref mct, .ref mp, .ref mnm, .ref m1, .ref m2, .int om, .int tm, .ref mt, .ref mk, .ref mr, .ref ml, .ref mq])), (ml, .inl (k10, 64, .inr (.inl fl)))]) s.heap := hR
  have hl := lv_entry ([.ref mo, .long (lN v), .int (nI (List.length L))]) (n := 6) (Nat.le_of_ble_eq_true rfl)
  rw [lg_entry_eq]
  generalize (lg_sl ([.ref mo, .long (lN v), .int (nI (List.length L))]) ++ List.replicate (6 - (lg_sl ([.ref mo, .long (lN v), .int (nI (List.length L))])).length) Slot.unset).toArray = ls at hl ⊢
  have hl : lv_has ls 6 [(0, .ref mo), (1, .long (lN v)), (3, .int (nI (List.length L)))] := hl
  refine lv_iconst (v := nI 0) hx hb dX10_isOnLeft_0 (by decide) ?_
  refine lv_istore (lv' := [(4, .int (nI 0)), (0, .ref mo), (1, .long (lN v)), (3, .int (nI (List.length L)))]) hx hb dX10_isOnLeft_1 hl (by decide) rfl (fun ls hl => ?_)
  refine lv_iconst (v := nI 0) hx hb dX10_isOnLeft_3 (by decide) ?_
  refine lv_istore (lv' := [(5, .int (nI 0)), (4, .int (nI 0)), (0, .ref mo), (1, .long (lN v)), (3, .int (nI (List.length L)))]) hx hb dX10_isOnLeft_4 hl (by decide) rfl (fun ls hl => ?_)
  refine q_loop (fun (x : (Nat) × (Nat)) (Hc : Heap) (Lc : List Loc) (ls : Array Slot) => match x with | (i, b) => (i ≤ List.length L) ∧ (b ≤ 1) ∧ (b = 1 ↔ ∃ j, j < i ∧ List.getD L j 0 = v) ∧ s.heap = Hc ∧ [] = Lc ∧ lv_has ls 6 [(5, .int (nI i)), (4, .int (nI b)), (0, .ref mo), (1, .long (lN v)), (3, .int (nI (List.length L)))]) (fun (x : (Nat) × (Nat)) => match x with | (i, b) => List.length L - i) (0, 0) ⟨(by omega), (by omega), ⟨fun h9 => by omega, fun ⟨j, q1, _⟩ => by omega⟩, rfl, rfl, (lv_sub hl [0, 1, 2, 3, 4] rfl)⟩ ?_
  clear hl
  rintro ⟨i, b⟩ Hc Lc ls hI ih_6
  obtain ⟨hi, hb1, hbv, rfl, rfl, hl⟩ := hI
  refine lv_iload hx hb dX10_isOnLeft_6 (lv_at hl 0 rfl) ?_
  refine lv_iload_n hx hb dX10_isOnLeft_8 rfl (lv_at hl 4 rfl) ?_
  refine q_icmp_ge (a := i) (b := List.length L) (tgt := 42) hx hb dX10_isOnLeft_9 (by decide) (by omega) (by omega) (fun c_9 => ?_) (fun c_9 => ?_)
  · skip
    refine lv_iload hx hb dX10_isOnLeft_42 (lv_at hl 1 rfl) ?_
    have hbi : b = 1 ↔ v ∈ L := by rw [hbv, q_mem, show List.length L = i by omega]
    exact W.zret (v := nI b) hx hb hr (by rcases (show b = 0 ∨ b = 1 by omega) with h8 | h8 <;> rw [h8] <;> rfl) (fun t9 ht _ => ⟨nI b, rfl, (by by_cases h8 : b = 1; (rw [if_pos (hbi.mp h8), h8]; rfl); (rw [if_neg (fun h => h8 (hbi.mpr h)), show b = 0 by omega]; rfl)), ht⟩) (fun _ h => absurd h List.not_mem_nil) dX10_isOnLeft_44
  · skip
    refine lv_iload hx hb dX10_isOnLeft_12 (lv_at hl 1 rfl) ?_
    refine q_cut 34 (fun (x : (Nat)) (Hc : Heap) (Lc : List Loc) (ls : Array Slot) (st : List Value) => match x with | b2 => (b2 ≤ 1) ∧ (b2 = 1 ↔ (b = 1 ∨ List.getD L i 0 = v)) ∧ s.heap = Hc ∧ [] = Lc ∧ lv_has ls 6 [(5, .int (nI i)), (4, .int (nI b)), (0, .ref mo), (1, .long (lN v)), (3, .int (nI (List.length L)))] ∧ [.int (nI b2)] = st) ?_ ?_
    · clear hl
      rintro b2 Hc Lc ls st hI
      obtain ⟨h3, h4, rfl, rfl, hl, rfl⟩ := hI
      refine lv_istore (lv' := [(4, .int (nI b2)), (5, .int (nI i)), (0, .ref mo), (1, .long (lN v)), (3, .int (nI (List.length L)))]) hx hb dX10_isOnLeft_34 hl (by decide) rfl (fun ls hl => ?_)
      refine lv_iinc (v := nI (i + 1)) (lv' := [(5, .int (nI (i + 1))), (4, .int (nI b2)), (0, .ref mo), (1, .long (lN v)), (3, .int (nI (List.length L)))]) hx hb dX10_isOnLeft_36 hl (k := 1) rfl (q_inc (k := 1) (by omega)) (by decide) rfl (fun ls hl => ?_)
      refine lv_goto (tgt := 6) hx hb dX10_isOnLeft_39 (by decide) ?_
      exact ih_6 (i + 1, b2) _ _ _ ⟨(by omega), h3, (by rw [h4, hbv]; constructor; (rintro (⟨j, q1, q2⟩ | q1); (exact ⟨j, by omega, q2⟩); (exact ⟨i, by omega, q1⟩)); (rintro ⟨j, q1, q2⟩; by_cases e : j = i; (exact Or.inr (e ▸ q2)); (exact Or.inl ⟨j, by omega, q2⟩))), rfl, rfl, (lv_sub hl [0, 1, 2, 3, 4] rfl)⟩ (by show List.length L - (i + 1) < List.length L - i; omega)
    · intro hcut_34
      refine q_if_ne (a := b) (tgt := 29) hx hb dX10_isOnLeft_14 (by decide) (by omega) (fun c_14 => ?_) (fun c_14 => ?_)
      · skip
        refine lv_iconst (v := nI 1) hx hb dX10_isOnLeft_29 (by decide) ?_
        refine lv_goto (tgt := 34) hx hb dX10_isOnLeft_30 (by decide) ?_
        exact hcut_34 1 _ _ _ _ ⟨(by omega), (by omega), rfl, rfl, (lv_sub hl [0, 1, 2, 3, 4] rfl), rfl⟩
      · skip
        refine lv_aload_n hx hb dX10_isOnLeft_17 rfl (lv_at hl 2 rfl) ?_
        refine va_get (D := D) (own := RX10) (ref := "FuzzyFensModel") (ci := 9) (v := .ref ml) (C := RX10) (T := TX10) (N := 15) hx hb hts iX10_isOnLeft_X10 hown hK hR 0 rfl rfl 13 (by decide) (hts (.fieldLink RX10 38 "FuzzyFensModel" "left" "[J") (List.mem_of_getElem? (i := 1) rfl)) (fun _ h9 => h9) rfl dX10_isOnLeft_18 ?_
        refine lv_iload hx hb dX10_isOnLeft_21 (lv_at hl 0 rfl) ?_
        refine va_lald (D := D) hx hb hK hR 1 0 rfl rfl (vp_in_nI (n := i) (N := 64) (by omega) (by decide)) dX10_isOnLeft_23 ?_
        rw [nI_clamp (n := i) (by omega)]
        refine q_cvl (show (fl i) = (lN (List.getD L i 0)) from hL i (by omega)) ?_
        refine lv_lload_n hx hb dX10_isOnLeft_24 rfl (lv_at hl 3 rfl) ?_
        refine W.lcmp hx hb dX10_isOnLeft_25 ?_
        refine q_lc_ne (a := List.getD L i 0) (b := v) (tgt := 33) hx hb dX10_isOnLeft_26 (by decide) (by have := hLb i (by omega); omega) (by omega) (fun c_26 => ?_) (fun c_26 => ?_)
        · skip
          refine lv_iconst (v := nI 0) hx hb dX10_isOnLeft_33 (by decide) ?_
          exact hcut_34 0 _ _ _ _ ⟨(by omega), (by omega), rfl, rfl, (lv_sub hl [0, 1, 2, 3, 4] rfl), rfl⟩
        · skip
          refine lv_iconst (v := nI 1) hx hb dX10_isOnLeft_29 (by decide) ?_
          refine lv_goto (tgt := 34) hx hb dX10_isOnLeft_30 (by decide) ?_
          exact hcut_34 1 _ _ _ _ ⟨(by omega), (by omega), rfl, rfl, (lv_sub hl [0, 1, 2, 3, 4] rfl), rfl⟩
