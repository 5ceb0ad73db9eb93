/-! the law's helpers -/
set_option maxHeartbeats 4000000 in
set_option maxRecDepth 100000 in
/-- low -/
theorem c_L_low (l : Launch) (D : va_G) (x9 : Int32) (n : Nat) (h0 : 0 < n) (hn : n < 2 ^ 31) : Met l yL_low wsL_low { frames := 0, cells := 0, slots := 0, locals := 0 } (va_Pc [.int x9, .int (nI n)] (qP D ([]) [])) (vp_Si (fun rv : Int32 => rv = nI (lwv x9 n))) 0 0 (fun _ => False) := by
  refine Met.ofW (cc := cL_low) (maxL := 2) (ret := (some .int)) (by decide) rfl ?_
  intro pM eM s mi9 argsM belowM methM cM sM B hml hv
  obtain ⟨rfl, hR, hK, hNw⟩ := hv
  have hx := B.exec
  have hb := B.bytes
  have hr := B.returns
  have hts := atoms_spec (ws := wsL_low) B.pre
  have hown : s.vm.findClass RL = some mi9.cls := findClass_of_methodNamed B.named
  have hlocks := B.notSynchronized
  have hS : va_S (fun _ => False) s.heap s.heap [] := va_S.rf
  have hR : va_P D vwCl ([]) s.heap := hR
  have hl := lv_entry ([.int x9, .int (nI n)]) (n := 2) (Nat.le_of_ble_eq_true rfl)
  rw [lg_entry_eq]
  generalize (lg_sl ([.int x9, .int (nI n)]) ++ List.replicate (2 - (lg_sl ([.int x9, .int (nI n)])).length) Slot.unset).toArray = ls at hl ⊢
  have hl : lv_has ls 2 [(0, .int x9), (1, .int (nI n))] := hl
  refine lv_iload_n hx hb dL_low_0 rfl (lv_at hl 0 rfl) ?_
  refine lv_ldc (v := 2147483647) hx hb hown (hts (.constant RL 7 (2147483647)) (List.mem_of_getElem? (i := 1) rfl)) dL_low_1 ?_
  refine q_cvi (show (2147483647 : Int32) = nI 2147483647 by decide) ?_
  refine lv_iand hx hb dL_low_3 ?_
  refine q_cvi (show (x9 &&& (nI 2147483647)) = (nI (x9.toBitVec.toNat % 2147483648)) from q_and31 x9) ?_
  refine lv_iload_n hx hb dL_low_4 rfl (lv_at hl 1 rfl) ?_
  refine lv_irem hx hb dL_low_5 (q_nz h0 hn) ?_
  refine q_cvi (lwv_rem h0 hn) ?_
  exact W.iret (v := nI (lwv x9 n)) hx hb hr (fun t9 ht _ => ⟨nI (lwv x9 n), rfl, rfl, ht⟩) (fun _ h => absurd h List.not_mem_nil) dL_low_6

set_option maxHeartbeats 4000000 in
set_option maxRecDepth 100000 in
/-- cell -/
theorem c_L_cell (l : Launch) (D : va_G) (b : Nat) (L : Nat) (xs : Nat → Int32) (k : Nat) (hL : L < 2 ^ 31) (hk : k < 2 ^ 31) : Met l yL_cell wsL_cell { frames := 0, cells := 0, slots := 0, locals := 0 } (va_Pc [.ref b, .int (nI k)] (qPt D ([]) [] b L xs)) (vp_Si (fun rv : Int32 => True)) 0 0 (fun _ => False) := by
  refine Met.ofW (cc := cL_cell) (maxL := 2) (ret := (some .int)) (by decide) rfl ?_
  intro pM eM s mi9 argsM belowM methM cM sM B hml hv
  obtain ⟨rfl, hR, hK, hNw, hT⟩ := hv
  have hx := B.exec
  have hb := B.bytes
  have hr := B.returns
  have hts := atoms_spec (ws := wsL_cell) B.pre
  have hown : s.vm.findClass RL = some mi9.cls := findClass_of_methodNamed B.named
  have hlocks := B.notSynchronized
  have hS : va_S (fun _ => False) s.heap s.heap [] := va_S.rf
  have hR : va_P D vwCl ([]) s.heap := hR
  have hl := lv_entry ([.ref b, .int (nI k)]) (n := 2) (Nat.le_of_ble_eq_true rfl)
  rw [lg_entry_eq]
  generalize (lg_sl ([.ref b, .int (nI k)]) ++ List.replicate (2 - (lg_sl ([.ref b, .int (nI k)])).length) Slot.unset).toArray = ls at hl ⊢
  have hl : lv_has ls 2 [(0, .ref b), (1, .int (nI k))] := hl
  refine lv_iload_n hx hb dL_cell_0 rfl (lv_at hl 1 rfl) ?_
  refine lv_aload_n hx hb dL_cell_1 rfl (lv_at hl 0 rfl) ?_
  refine va_tlen (v := nI L) hx hb hT hS rfl dL_cell_2 ?_
  refine q_icmp_ge (a := k) (b := L) (tgt := 12) hx hb dL_cell_3 (by decide) (by omega) (by omega) (fun c_3 => ?_) (fun c_3 => ?_)
  · skip
    refine lv_sipush (v := nI 7919) hx hb dL_cell_12 (by decide) ?_
    refine lv_iload_n hx hb dL_cell_15 rfl (lv_at hl 1 rfl) ?_
    refine lv_bipush (v := nI 43) hx hb dL_cell_16 (by decide) ?_
    refine lv_iadd hx hb dL_cell_18 ?_
    refine lv_imul hx hb dL_cell_19 ?_
    refine lv_iload_n hx hb dL_cell_20 rfl (lv_at hl 1 rfl) ?_
    refine lv_sipush (v := nI 1987) hx hb dL_cell_21 (by decide) ?_
    refine lv_iadd hx hb dL_cell_24 ?_
    refine lv_imul hx hb dL_cell_25 ?_
    exact W.iret (v := ((nI 7919) * ((nI k) + (nI 43))) * ((nI k) + (nI 1987))) hx hb hr (fun t9 ht _ => ⟨((nI 7919) * ((nI k) + (nI 43))) * ((nI k) + (nI 1987)), rfl, trivial, ht⟩) (fun _ h => absurd h List.not_mem_nil) dL_cell_26
  · skip
    refine lv_aload_n hx hb dL_cell_6 rfl (lv_at hl 0 rfl) ?_
    refine lv_iload_n hx hb dL_cell_7 rfl (lv_at hl 1 rfl) ?_
    refine va_ti (v := .int (xs (k))) hx hb hT hS (vp_in_nI (n := k) (N := L) (by omega) (by omega)) (by rw [nI_clamp (n := k) (by omega)]) dL_cell_8 ?_
    refine lv_goto (tgt := 26) hx hb dL_cell_9 (by decide) ?_
    exact W.iret (v := xs k) hx hb hr (fun t9 ht _ => ⟨xs k, rfl, trivial, ht⟩) (fun _ h => absurd h List.not_mem_nil) dL_cell_26

set_option maxHeartbeats 4000000 in
set_option maxRecDepth 100000 in
/-- word -/
theorem c_L_word (l : Launch) (D : va_G) (v9 : Int32) (z9 : Int32)  : Met l yL_word wsL_word { frames := 1, cells := 0, slots := 0, locals := 21 } (va_Pc [.int v9, .int z9] (qP D ([]) [])) (vp_Sl (fun rv : Int64 => (z9 = 0 → ∃ a, rv = lN a ∧ gw a))) 0 0 (fun _ => False) := by
  refine Met.ofW (cc := cL_word) (maxL := 7) (ret := (some .long)) (by decide) rfl ?_
  intro pM eM s mi9 argsM belowM methM cM sM B hml hv
  obtain ⟨rfl, hR, hK, hNw⟩ := hv
  have hx := B.exec
  have hb := B.bytes
  have hr := B.returns
  have hts := atoms_spec (ws := wsL_word) B.pre
  have hown : s.vm.findClass RL = some mi9.cls := findClass_of_methodNamed B.named
  have hlocks := B.notSynchronized
  have hS : va_S (fun _ => False) s.heap s.heap [] := va_S.rf
  have hR : va_P D vwCl ([]) s.heap := hR
  have hl := lv_entry ([.int v9, .int z9]) (n := 7) (Nat.le_of_ble_eq_true rfl)
  rw [lg_entry_eq]
  generalize (lg_sl ([.int v9, .int z9]) ++ List.replicate (7 - (lg_sl ([.int v9, .int z9])).length) Slot.unset).toArray = ls at hl ⊢
  have hl : lv_has ls 7 [(0, .int v9), (1, .int z9)] := hl
  refine lv_iconst (v := nI 1) hx hb dL_word_0 (by decide) ?_
  refine lv_iload_n hx hb dL_word_1 rfl (lv_at hl 0 rfl) ?_
  refine lv_iconst (v := nI 3) hx hb dL_word_2 (by decide) ?_
  refine lv_ishr hx hb dL_word_3 ?_
  refine q_cut 15 (fun (x : (Nat)) (Hc : Heap) (Lc : List Loc) (ls : Array Slot) (st : List Value) => match x with | n9 => (n9 = 6 ∨ n9 = 12) ∧ (z9 = 0 → n9 = 6) ∧ s.heap = Hc ∧ [] = Lc ∧ lv_has ls 7 [(0, .int v9), (1, .int z9)] ∧ [.int (nI n9), .int (v9 >>> ((nI 3) &&& 31)), .int (nI 1)] = st) ?_ ?_
  · clear hl
    rintro n9 Hc Lc ls st hI
    obtain ⟨hn9, hz9, rfl, rfl, hl, rfl⟩ := hI
    refine vp_callSi (W.runS (As := [.int (v9 >>> ((nI 3) &&& 31)), .int (nI n9)]) (rest := [.int (nI 1)]) ⟨hx, hb, hml, hown, hts⟩ (c_L_low (l := l) (D := D) (x9 := v9 >>> ((nI 3) &&& 31)) (n := n9) (h0 := by omega) (hn := by omega)) (va_cwS 2 hts gL_word_L_low rfl rfl rfl (by decide +kernel) ⟨Nat.le_of_ble_eq_true rfl, Nat.le_of_ble_eq_true rfl⟩) ⟨qP_blind, (qP_of (q_Pof (fun _ h => absurd h List.not_mem_nil)) (hK.sub (tys' := []) [] rfl) hNw)⟩ rfl rfl hl.1 rfl (lv_room (Nat.le_of_ble_eq_true rfl)) dL_word_15 ⟨Nat.le_of_ble_eq_true rfl, Nat.le_of_ble_eq_true rfl⟩) (fun r_1 hr_1 => ?_)
    subst hr_1
    obtain ⟨r9, hr9⟩ : ∃ z8 : Nat, z8 = lwv (v9 >>> ((nI 3) &&& 31)) n9 := ⟨_, rfl⟩
    have hbr9 : r9 < n9 := by rw [hr9]; exact lwv_lt (by omega)
    refine q_cvi (show nI (lwv (v9 >>> ((nI 3) &&& 31)) n9) = nI r9 by rw [hr9]) ?_
    refine q_iadd (d := r9 + 1) hx hb dL_word_18 (by omega) ?_
    refine lv_istore_n (lv' := [(2, .int (nI (r9 + 1))), (0, .int v9), (1, .int z9)]) hx hb dL_word_19 rfl hl (by decide) rfl (fun ls hl => ?_)
    refine lv_lconst (v := lN 0) hx hb dL_word_20 (by decide) ?_
    refine lv_lstore_n (lv' := [(3, .long (lN 0)), (2, .int (nI (r9 + 1))), (0, .int v9), (1, .int z9)]) hx hb dL_word_21 rfl hl (by decide) rfl (fun ls hl => ?_)
    refine lv_iconst (v := nI 0) hx hb dL_word_22 (by decide) ?_
    refine lv_istore (lv' := [(5, .int (nI 0)), (3, .long (lN 0)), (2, .int (nI (r9 + 1))), (0, .int v9), (1, .int z9)]) hx hb dL_word_23 hl (by decide) rfl (fun ls hl => ?_)
    refine q_loop (fun (x : (Nat) × (Int64)) (Hc : Heap) (Lc : List Loc) (ls : Array Slot) => match x with | (k, u9) => (k ≤ 1 + r9) ∧ (wdr z9 k u9) ∧ s.heap = Hc ∧ [] = Lc ∧ lv_has ls 7 [(5, .int (nI k)), (3, .long u9), (2, .int (nI (r9 + 1))), (0, .int v9), (1, .int z9)]) (fun (x : (Nat) × (Int64)) => match x with | (k, u9) => 1 + r9 - k) (0, lN 0) ⟨(by omega), wdr_0, rfl, rfl, (lv_sub hl [0, 1, 2, 3, 4] rfl)⟩ ?_
    clear hl
    rintro ⟨k, u9⟩ Hc Lc ls hI ih_25
    obtain ⟨hk, hu, rfl, rfl, hl⟩ := hI
    refine lv_iload hx hb dL_word_25 (lv_at hl 0 rfl) ?_
    refine lv_iload_n hx hb dL_word_27 rfl (lv_at hl 2 rfl) ?_
    refine q_icmp_ge (a := k) (b := r9 + 1) (tgt := 128) hx hb dL_word_28 (by decide) (by omega) (by omega) (fun c_28 => ?_) (fun c_28 => ?_)
    · skip
      refine lv_lload_n hx hb dL_word_128 rfl (lv_at hl 1 rfl) ?_
      exact W.lret (v := u9) hx hb hr (fun t9 ht _ => ⟨u9, rfl, (wdr_e hu (by omega) (fun h9 => by have := hz9 h9; omega)), ht⟩) (fun _ h => absurd h List.not_mem_nil) dL_word_129
    · skip
      refine q_cut 74 (fun (x : (Nat)) (Hc : Heap) (Lc : List Loc) (ls : Array Slot) (st : List Value) => match x with | t9 => (1 ≤ t9) ∧ (t9 ≤ 26) ∧ s.heap = Hc ∧ [] = Lc ∧ lv_has ls 7 [(5, .int (nI k)), (3, .long u9), (2, .int (nI (r9 + 1))), (0, .int v9), (1, .int z9)] ∧ [.int (nI t9)] = st) ?_ ?_
      · clear hl
        rintro t9 Hc Lc ls st hI
        obtain ⟨ht1, ht2, rfl, rfl, hl, rfl⟩ := hI
        refine lv_istore (lv' := [(6, .int (nI t9)), (5, .int (nI k)), (3, .long u9), (2, .int (nI (r9 + 1))), (0, .int v9), (1, .int z9)]) hx hb dL_word_74 hl (by decide) rfl (fun ls hl => ?_)
        refine lv_ldc2 (v := 32) hx hb hown (hts (.constantLong RL 29 (32)) (List.mem_of_getElem? (i := 1) rfl)) dL_word_76 ?_
        refine q_cvl (show (32 : Int64) = lN 32 by decide) ?_
        refine lv_lload_n hx hb dL_word_79 rfl (lv_at hl 2 rfl) ?_
        refine lv_lmul hx hb dL_word_80 ?_
        refine q_cut 119 (fun (x : (Int32)) (Hc : Heap) (Lc : List Loc) (ls : Array Slot) (st : List Value) => match x with | t8 => (z9 = 0 → t8 = nI t9) ∧ s.heap = Hc ∧ [] = Lc ∧ lv_has ls 7 [(6, .int (nI t9)), (5, .int (nI k)), (3, .long u9), (2, .int (nI (r9 + 1))), (0, .int v9), (1, .int z9)] ∧ [.int t8, .long ((lN 32) * u9)] = st) ?_ ?_
        · clear hl
          rintro t8 Hc Lc ls st hI
          obtain ⟨ht8, rfl, rfl, hl, rfl⟩ := hI
          refine lv_i2l hx hb dL_word_119 rfl ?_
          refine lv_ladd hx hb dL_word_120 ?_
          refine lv_lstore_n (lv' := [(3, .long (((lN 32) * u9) + ((t8).toInt64))), (6, .int (nI t9)), (5, .int (nI k)), (2, .int (nI (r9 + 1))), (0, .int v9), (1, .int z9)]) hx hb dL_word_121 rfl hl (by decide) rfl (fun ls hl => ?_)
          refine lv_iinc (v := nI (k + 1)) (lv' := [(5, .int (nI (k + 1))), (3, .long (((lN 32) * u9) + ((t8).toInt64))), (6, .int (nI t9)), (2, .int (nI (r9 + 1))), (0, .int v9), (1, .int z9)]) hx hb dL_word_122 hl (k := 2) rfl (q_inc (k := 1) (by omega)) (by decide) rfl (fun ls hl => ?_)
          refine lv_goto (tgt := 25) hx hb dL_word_125 (by decide) ?_
          exact ih_25 (k + 1, ((lN 32) * u9) + ((t8).toInt64)) _ _ _ ⟨(by omega), (wdr_s hu ht1 ht2 ht8), rfl, rfl, (lv_sub hl [0, 1, 3, 4, 5] rfl)⟩ (by show 1 + r9 - (k + 1) < 1 + r9 - k; omega)
        · intro hcut_119
          refine lv_iload_n hx hb dL_word_81 rfl (lv_at hl 5 rfl) ?_
          refine lv_if_eq (tgt := 117) hx hb dL_word_82 (by decide) (fun c_82 => ?_) (fun c_82 => ?_)
          · skip
            refine lv_iload hx hb dL_word_117 (lv_at hl 0 rfl) ?_
            exact hcut_119 (nI t9) _ _ _ _ ⟨(fun _ => rfl), rfl, rfl, (lv_sub hl [0, 1, 2, 3, 4, 5] rfl), rfl⟩
          · skip
            refine lv_iload hx hb dL_word_85 (lv_at hl 1 rfl) ?_
            refine lv_iconst (v := nI 2) hx hb dL_word_87 (by decide) ?_
            refine q_icmp_ne (a := k) (b := 2) (tgt := 117) hx hb dL_word_88 (by decide) (by omega) (by omega) (fun c_88 => ?_) (fun c_88 => ?_)
            · skip
              refine lv_iload hx hb dL_word_117 (lv_at hl 0 rfl) ?_
              exact hcut_119 (nI t9) _ _ _ _ ⟨(fun h9 => absurd h9 c_82), rfl, rfl, (lv_sub hl [0, 1, 2, 3, 4, 5] rfl), rfl⟩
            · skip
              refine lv_iload_n hx hb dL_word_91 rfl (lv_at hl 4 rfl) ?_
              refine lv_bipush (v := nI 20) hx hb dL_word_92 (by decide) ?_
              refine lv_ishr hx hb dL_word_94 ?_
              refine lv_iconst (v := nI 1) hx hb dL_word_95 (by decide) ?_
              refine lv_iand hx hb dL_word_96 ?_
              refine lv_if_ne (tgt := 117) hx hb dL_word_97 (by decide) (fun c_97 => ?_) (fun c_97 => ?_)
              · skip
                refine lv_iload hx hb dL_word_117 (lv_at hl 0 rfl) ?_
                exact hcut_119 (nI t9) _ _ _ _ ⟨(fun h9 => absurd h9 c_82), rfl, rfl, (lv_sub hl [0, 1, 2, 3, 4, 5] rfl), rfl⟩
              · skip
                refine lv_bipush (v := nI 27) hx hb dL_word_100 (by decide) ?_
                refine lv_iload_n hx hb dL_word_102 rfl (lv_at hl 4 rfl) ?_
                refine lv_iconst (v := nI 4) hx hb dL_word_103 (by decide) ?_
                refine lv_ishr hx hb dL_word_104 ?_
                refine lv_bipush (v := nI 6) hx hb dL_word_105 (by decide) ?_
                refine vp_callSi (W.runS (As := [.int (v9 >>> ((nI 4) &&& 31)), .int (nI 6)]) (rest := [.int (nI 27), .long ((lN 32) * u9)]) ⟨hx, hb, hml, hown, hts⟩ (c_L_low (l := l) (D := D) (x9 := v9 >>> ((nI 4) &&& 31)) (n := 6) (h0 := by decide) (hn := by decide)) (va_cwS 2 hts gL_word_L_low rfl rfl rfl (by decide +kernel) ⟨Nat.le_of_ble_eq_true rfl, Nat.le_of_ble_eq_true rfl⟩) ⟨qP_blind, (qP_of (q_Pof (fun _ h => absurd h List.not_mem_nil)) (hK.sub (tys' := []) [] rfl) hNw)⟩ rfl rfl hl.1 rfl (lv_room (Nat.le_of_ble_eq_true rfl)) dL_word_107 ⟨Nat.le_of_ble_eq_true rfl, Nat.le_of_ble_eq_true rfl⟩) (fun r_2 hr_2 => ?_)
                subst hr_2
                obtain ⟨p6, hp6⟩ : ∃ z9 : Nat, z9 = lwv (v9 >>> ((nI 4) &&& 31)) 6 := ⟨_, rfl⟩
                have hbp6 : p6 < 6 := by rw [hp6]; exact lwv_lt (by decide)
                refine q_cvi (show nI (lwv (v9 >>> ((nI 4) &&& 31)) 6) = nI p6 by rw [hp6]) ?_
                refine lv_bipush (v := nI 6) hx hb dL_word_110 (by decide) ?_
                refine lv_irem hx hb dL_word_112 (by decide) ?_
                refine q_cvi (pk_rem (by omega) (by decide) (by decide)) ?_
                refine q_iadd (d := p6 % 6 + 27) hx hb dL_word_113 (by omega) ?_
                refine lv_goto (tgt := 119) hx hb dL_word_114 (by decide) ?_
                exact hcut_119 (nI (p6 % 6 + 27)) _ _ _ _ ⟨(fun h9 => absurd h9 c_82), rfl, rfl, (lv_sub hl [0, 1, 2, 3, 4, 5] rfl), rfl⟩
      · intro hcut_74
        refine lv_iload_n hx hb dL_word_31 rfl (lv_at hl 3 rfl) ?_
        refine lv_iload hx hb dL_word_32 (lv_at hl 0 rfl) ?_
        refine lv_iconst (v := nI 3) hx hb dL_word_34 (by decide) ?_
        refine q_imul (d := 3 * k) hx hb dL_word_35 (by omega) ?_
        refine lv_bipush (v := nI 24) hx hb dL_word_36 (by decide) ?_
        refine lv_irem hx hb dL_word_38 (by decide) ?_
        refine q_cvi (pk_rem (by omega) (by decide) (by decide)) ?_
        refine lv_ishr hx hb dL_word_39 ?_
        refine lv_bipush (v := nI 7) hx hb dL_word_40 (by decide) ?_
        refine lv_iand hx hb dL_word_42 ?_
        refine lv_bipush (v := nI 6) hx hb dL_word_43 (by decide) ?_
        refine lv_icmp_ge (tgt := 61) hx hb dL_word_45 (by decide) (fun c_45 => ?_) (fun c_45 => ?_)
        · skip
          refine lv_bipush (v := nI 16) hx hb dL_word_61 (by decide) ?_
          refine lv_iload_n hx hb dL_word_63 rfl (lv_at hl 3 rfl) ?_
          refine lv_iload hx hb dL_word_64 (lv_at hl 0 rfl) ?_
          refine lv_iconst (v := nI 2) hx hb dL_word_66 (by decide) ?_
          refine q_iadd (d := k + 2) hx hb dL_word_67 (by omega) ?_
          refine lv_ishr hx hb dL_word_68 ?_
          refine lv_iconst (v := nI 4) hx hb dL_word_69 (by decide) ?_
          refine vp_callSi (W.runS (As := [.int (v9 >>> ((nI (k + 2)) &&& 31)), .int (nI 4)]) (rest := [.int (nI 16)]) ⟨hx, hb, hml, hown, hts⟩ (c_L_low (l := l) (D := D) (x9 := v9 >>> ((nI (k + 2)) &&& 31)) (n := 4) (h0 := by decide) (hn := by decide)) (va_cwS 2 hts gL_word_L_low rfl rfl rfl (by decide +kernel) ⟨Nat.le_of_ble_eq_true rfl, Nat.le_of_ble_eq_true rfl⟩) ⟨qP_blind, (qP_of (q_Pof (fun _ h => absurd h List.not_mem_nil)) (hK.sub (tys' := []) [] rfl) hNw)⟩ rfl rfl hl.1 rfl (lv_room (Nat.le_of_ble_eq_true rfl)) dL_word_70 ⟨Nat.le_of_ble_eq_true rfl, Nat.le_of_ble_eq_true rfl⟩) (fun r_3 hr_3 => ?_)
          subst hr_3
          obtain ⟨p4, hp4⟩ : ∃ z9 : Nat, z9 = lwv (v9 >>> ((nI (k + 2)) &&& 31)) 4 := ⟨_, rfl⟩
          have hbp4 : p4 < 4 := by rw [hp4]; exact lwv_lt (by decide)
          refine q_cvi (show nI (lwv (v9 >>> ((nI (k + 2)) &&& 31)) 4) = nI p4 by rw [hp4]) ?_
          refine q_iadd (d := p4 + 16) hx hb dL_word_73 (by omega) ?_
          exact hcut_74 (p4 + 16) _ _ _ _ ⟨(by omega), (by omega), rfl, rfl, (lv_sub hl [0, 1, 2, 3, 4] rfl), rfl⟩
        · skip
          refine lv_iconst (v := nI 1) hx hb dL_word_48 (by decide) ?_
          refine lv_iload_n hx hb dL_word_49 rfl (lv_at hl 3 rfl) ?_
          refine lv_iload hx hb dL_word_50 (lv_at hl 0 rfl) ?_
          refine lv_ishr hx hb dL_word_52 ?_
          refine lv_iconst (v := nI 3) hx hb dL_word_53 (by decide) ?_
          refine vp_callSi (W.runS (As := [.int (v9 >>> ((nI k) &&& 31)), .int (nI 3)]) (rest := [.int (nI 1)]) ⟨hx, hb, hml, hown, hts⟩ (c_L_low (l := l) (D := D) (x9 := v9 >>> ((nI k) &&& 31)) (n := 3) (h0 := by decide) (hn := by decide)) (va_cwS 2 hts gL_word_L_low rfl rfl rfl (by decide +kernel) ⟨Nat.le_of_ble_eq_true rfl, Nat.le_of_ble_eq_true rfl⟩) ⟨qP_blind, (qP_of (q_Pof (fun _ h => absurd h List.not_mem_nil)) (hK.sub (tys' := []) [] rfl) hNw)⟩ rfl rfl hl.1 rfl (lv_room (Nat.le_of_ble_eq_true rfl)) dL_word_54 ⟨Nat.le_of_ble_eq_true rfl, Nat.le_of_ble_eq_true rfl⟩) (fun r_4 hr_4 => ?_)
          subst hr_4
          obtain ⟨p3, hp3⟩ : ∃ z9 : Nat, z9 = lwv (v9 >>> ((nI k) &&& 31)) 3 := ⟨_, rfl⟩
          have hbp3 : p3 < 3 := by rw [hp3]; exact lwv_lt (by decide)
          refine q_cvi (show nI (lwv (v9 >>> ((nI k) &&& 31)) 3) = nI p3 by rw [hp3]) ?_
          refine q_iadd (d := p3 + 1) hx hb dL_word_57 (by omega) ?_
          refine lv_goto (tgt := 74) hx hb dL_word_58 (by decide) ?_
          exact hcut_74 (p3 + 1) _ _ _ _ ⟨(by omega), (by omega), rfl, rfl, (lv_sub hl [0, 1, 2, 3, 4] rfl), rfl⟩
  · intro hcut_15
    refine lv_iload_n hx hb dL_word_4 rfl (lv_at hl 1 rfl) ?_
    refine lv_if_eq (tgt := 13) hx hb dL_word_5 (by decide) (fun c_5 => ?_) (fun c_5 => ?_)
    · skip
      refine lv_bipush (v := nI 6) hx hb dL_word_13 (by decide) ?_
      exact hcut_15 6 _ _ _ _ ⟨(by omega), (fun _ => rfl), rfl, rfl, (lv_sub hl [0, 1] rfl), rfl⟩
    · skip
      refine lv_bipush (v := nI 12) hx hb dL_word_8 (by decide) ?_
      refine lv_goto (tgt := 15) hx hb dL_word_10 (by decide) ?_
      exact hcut_15 12 _ _ _ _ ⟨(by omega), (fun h9 => absurd h9 c_5), rfl, rfl, (lv_sub hl [0, 1] rfl), rfl⟩

set_option maxHeartbeats 4000000 in
set_option maxRecDepth 100000 in
/-- law: forget -/
theorem c_L_forget (l : Launch) (D : va_G) (sz : Nat) (xo : Nat) (gg : Nat) (gr : Nat) (ce : Nat) (tr : Nat) (sh : Nat) (ar : Nat) (ti : Nat) (n1 : Nat) (l1 : Nat) (s2 : Nat) (a2 : Nat) (s3 : Nat) (a3 : Nat) (n2 : Nat) (l2 : Nat) (cG : ClassId) (fc : Nat → Int32) (cS : ClassId) (f : Nat → Option Nat) (cJ1 : ClassId) (fN : Nat → Int64) (z1 : Int32) (cS2 : ClassId) (fk : Nat → Option Nat) (m : Nat) (ki : Nat → Nat) (cS3 : ClassId) (fr : Nat → Option Nat) (z3 : Int32) (cJ2 : ClassId) (fs : Nat → Int64) (z2 : Int32) (ea : Nat → Nat) (wa : Nat → Nat) (pf : Nat → Option Nat) (cn : Nat → Nat) (dp : Nat → Nat) (oc : Nat → Nat) (ic : Nat → Int32) (lf : Nat → Int32) (pt : Nat → Int32) (wd : Nat → Nat) (n : Nat) (a : Nat) (hst : l.stackTraces = false) (hnd : (([xo, gg, gr, ce, tr, sh, ar, ti, n1, l1, s2, a2, s3, a3, n2, l2] ++ (rg ea n ++ rg wa n)) ++ []).Nodup) (ha : a < 2 ^ 64) (hfe : ∀ j, j < n → f j = some (ea j)) (hn40 : n ≤ 40) (hg : ∀ k, k < n → gw (wd k)) (hm : m ≤ 40) (hf : ∀ j, j < m → fk j = some (ea (ki j))) (hki : ∀ j, j < m → ki j < n) (hob : ∀ k, k < n → oc k ≤ 1000000) (hinj : ∀ i j, i < n → j < n → ea i = ea j → i = j) (hkinj : ∀ i j, i < m → j < m → ki i = ki j → i = j) (hkn : ∀ i, i < n → 0 < oc i → ∃ p, p < m ∧ ki p = i) : Met l yL_forget wsL_forget { frames := 8, cells := 2, slots := 12, locals := 127 } (va_Pc [.ref xo, .long (lN a)] (qWx D sz ([]) ([(xo, .inr (8, [.ref gg, .ref tr, .ref ti, .ref s2, .ref s3, .ref n2])), (gg, .inr (1, [.ref gr])), (gr, .inr (2, [.ref ce])), (ce, .inl (cG, 121, .inl fc)), (tr, .inr (5, [.ref sh])), (sh, .inr (4, [.ref ar, .int (nI n)])), (ar, .inl (cS, 40, .inr (.inr (.inr (.inr f))))), (ti, .inr (6, [.ref n1])), (n1, .inr (3, [.ref l1, .int z1])), (l1, .inl (cJ1, 401, .inr (.inl fN))), (s2, .inr (4, [.ref a2, .int (nI m)])), (a2, .inl (cS2, 40, .inr (.inr (.inr (.inr fk))))), (s3, .inr (4, [.ref a3, .int z3])), (a3, .inl (cS3, 40, .inr (.inr (.inr (.inr fr))))), (n2, .inr (3, [.ref l2, .int z2])), (l2, .inl (cJ2, 56, .inr (.inl fs)))] ++ (EW ea wa pf cn dp oc ic lf pt n ++ WW wa wd n)) [(cG, .int), (cS, .object "FuzzyFens$Entry"), (cJ1, .long), (cS2, .object "FuzzyFens$Entry"), (cS3, .object "FuzzyFens$Entry"), (cJ2, .long)])) (va_Qi (fun (rv : Int32) (uv : (Nat) × (Nat → Option Nat) × (Nat → Nat)) => ((rv = (-99999) ∧ (¬ gw a ∨ (gw a ∧ ∀ i, ffi (fun k => decide (wd k = a)) n = some i → oc i = 0)) ∧ uv.1 = m ∧ uv.2.1 = fk ∧ uv.2.2 = oc) ∨ (gw a ∧ (∃ i p, ffi (fun k => decide (wd k = a)) n = some i ∧ 0 < oc i ∧ rv = nI (oc i) ∧ p < m ∧ ki p = i ∧ uv.1 = m - 1 ∧ uv.2.2 = va_up oc i 0 ∧ ∀ j, j < m - 1 → uv.2.1 j = some (ea (remF ki p j)))))) (fun (uv : (Nat) × (Nat → Option Nat) × (Nat → Nat)) (tv : State) => va_P D vwCl ([(xo, .inr (8, [.ref gg, .ref tr, .ref ti, .ref s2, .ref s3, .ref n2])), (gg, .inr (1, [.ref gr])), (gr, .inr (2, [.ref ce])), (ce, .inl (cG, 121, .inl fc)), (tr, .inr (5, [.ref sh])), (sh, .inr (4, [.ref ar, .int (nI n)])), (ar, .inl (cS, 40, .inr (.inr (.inr (.inr f))))), (ti, .inr (6, [.ref n1])), (n1, .inr (3, [.ref l1, .int z1])), (l1, .inl (cJ1, 401, .inr (.inl fN))), (s2, .inr (4, [.ref a2, .int (nI uv.1)])), (a2, .inl (cS2, 40, .inr (.inr (.inr (.inr uv.2.1))))), (s3, .inr (4, [.ref a3, .int z3])), (a3, .inl (cS3, 40, .inr (.inr (.inr (.inr fr))))), (n2, .inr (3, [.ref l2, .int z2])), (l2, .inl (cJ2, 56, .inr (.inl fs)))] ++ (EW ea wa pf cn dp uv.2.2 ic lf pt n ++ WW wa wd n)) tv.heap) (va_A ([(xo, .inr (8, [.ref gg, .ref tr, .ref ti, .ref s2, .ref s3, .ref n2])), (gg, .inr (1, [.ref gr])), (gr, .inr (2, [.ref ce])), (ce, .inl (cG, 121, .inl fc)), (tr, .inr (5, [.ref sh])), (sh, .inr (4, [.ref ar, .int (nI n)])), (ar, .inl (cS, 40, .inr (.inr (.inr (.inr f))))), (ti, .inr (6, [.ref n1])), (n1, .inr (3, [.ref l1, .int z1])), (l1, .inl (cJ1, 401, .inr (.inl fN))), (s2, .inr (4, [.ref a2, .int (nI m)])), (a2, .inl (cS2, 40, .inr (.inr (.inr (.inr fk))))), (s3, .inr (4, [.ref a3, .int z3])), (a3, .inl (cS3, 40, .inr (.inr (.inr (.inr fr))))), (n2, .inr (3, [.ref l2, .int z2])), (l2, .inl (cJ2, 56, .inr (.inl fs)))] ++ (EW ea wa pf cn dp oc ic lf pt n ++ WW wa wd n)) sz)) 2 12 (va_A ([(xo, .inr (8, [.ref gg, .ref tr, .ref ti, .ref s2, .ref s3, .ref n2])), (gg, .inr (1, [.ref gr])), (gr, .inr (2, [.ref ce])), (ce, .inl (cG, 121, .inl fc)), (tr, .inr (5, [.ref sh])), (sh, .inr (4, [.ref ar, .int (nI n)])), (ar, .inl (cS, 40, .inr (.inr (.inr (.inr f))))), (ti, .inr (6, [.ref n1])), (n1, .inr (3, [.ref l1, .int z1])), (l1, .inl (cJ1, 401, .inr (.inl fN))), (s2, .inr (4, [.ref a2, .int (nI m)])), (a2, .inl (cS2, 40, .inr (.inr (.inr (.inr fk))))), (s3, .inr (4, [.ref a3, .int z3])), (a3, .inl (cS3, 40, .inr (.inr (.inr (.inr fr))))), (n2, .inr (3, [.ref l2, .int z2])), (l2, .inl (cJ2, 56, .inr (.inl fs)))] ++ (EW ea wa pf cn dp oc ic lf pt n ++ WW wa wd n)) sz) := by
  refine va_MetW (cc := cL_forget) (maxL := 4) (ret := (some .int)) (hh := [(0, 5, 6, 14), (0, 5, 10, 17)]) (by decide) rfl ?_
  intro pM eM s mi9 argsM belowM methM cM sM B hml hv
  obtain ⟨rfl, hsz, hR0, hP, hK, hNw, hZ, hXt⟩ := hv
  have hx := B.exec
  have hb := B.bytes
  have hr := B.returns
  have hts := atoms_spec (ws := wsL_forget) B.pre
  have hta : cM.exceptionTable.toList = tableOf [(0, 5, 6, 14), (0, 5, 10, 17)] := vx_table (x := yL_forget) B (hts (.codeWith yL_forget cL_forget 4 (some .int) [(0, 5, 6, 14), (0, 5, 10, 17)]) (List.mem_of_getElem? (i := 0) rfl))
  have hown : s.vm.findClass RL = some mi9.cls := findClass_of_methodNamed B.named
  have hlocks := B.notSynchronized
  subst hsz
  have hna := q_na (RW := ([(xo, .inr (8, [.ref gg, .ref tr, .ref ti, .ref s2, .ref s3, .ref n2])), (gg, .inr (1, [.ref gr])), (gr, .inr (2, [.ref ce])), (ce, .inl (cG, 121, .inl fc)), (tr, .inr (5, [.ref sh])), (sh, .inr (4, [.ref ar, .int (nI n)])), (ar, .inl (cS, 40, .inr (.inr (.inr (.inr f))))), (ti, .inr (6, [.ref n1])), (n1, .inr (3, [.ref l1, .int z1])), (l1, .inl (cJ1, 401, .inr (.inl fN))), (s2, .inr (4, [.ref a2, .int (nI m)])), (a2, .inl (cS2, 40, .inr (.inr (.inr (.inr fk))))), (s3, .inr (4, [.ref a3, .int z3])), (a3, .inl (cS3, 40, .inr (.inr (.inr (.inr fr))))), (n2, .inr (3, [.ref l2, .int z2])), (l2, .inl (cJ2, 56, .inr (.inl fs)))] ++ (EW ea wa pf cn dp oc ic lf pt n ++ WW wa wd n))) (RO := []) hnd (by rw [List.map_append, List.map_append, EW_fst, WW_fst]; rfl) rfl hR0
  have hD := q_D (RW := ([(xo, .inr (8, [.ref gg, .ref tr, .ref ti, .ref s2, .ref s3, .ref n2])), (gg, .inr (1, [.ref gr])), (gr, .inr (2, [.ref ce])), (ce, .inl (cG, 121, .inl fc)), (tr, .inr (5, [.ref sh])), (sh, .inr (4, [.ref ar, .int (nI n)])), (ar, .inl (cS, 40, .inr (.inr (.inr (.inr f))))), (ti, .inr (6, [.ref n1])), (n1, .inr (3, [.ref l1, .int z1])), (l1, .inl (cJ1, 401, .inr (.inl fN))), (s2, .inr (4, [.ref a2, .int (nI m)])), (a2, .inl (cS2, 40, .inr (.inr (.inr (.inr fk))))), (s3, .inr (4, [.ref a3, .int z3])), (a3, .inl (cS3, 40, .inr (.inr (.inr (.inr fr))))), (n2, .inr (3, [.ref l2, .int z2])), (l2, .inl (cJ2, 56, .inr (.inl fs)))] ++ (EW ea wa pf cn dp oc ic lf pt n ++ WW wa wd n))) (sz := s.heap.size) hnd (by rw [List.map_append, List.map_append, EW_fst, WW_fst]; rfl)
  have hnR : (([] : va_W).map (·.1)).Nodup := by rw [show ([] : va_W).map (·.1) = [] from rfl]; exact (List.nodup_append.mp hnd).2.1
  have hA : ∀ q : Nat, s.heap.size ≤ q → va_A ([(xo, .inr (8, [.ref gg, .ref tr, .ref ti, .ref s2, .ref s3, .ref n2])), (gg, .inr (1, [.ref gr])), (gr, .inr (2, [.ref ce])), (ce, .inl (cG, 121, .inl fc)), (tr, .inr (5, [.ref sh])), (sh, .inr (4, [.ref ar, .int (nI n)])), (ar, .inl (cS, 40, .inr (.inr (.inr (.inr f))))), (ti, .inr (6, [.ref n1])), (n1, .inr (3, [.ref l1, .int z1])), (l1, .inl (cJ1, 401, .inr (.inl fN))), (s2, .inr (4, [.ref a2, .int (nI m)])), (a2, .inl (cS2, 40, .inr (.inr (.inr (.inr fk))))), (s3, .inr (4, [.ref a3, .int z3])), (a3, .inl (cS3, 40, .inr (.inr (.inr (.inr fr))))), (n2, .inr (3, [.ref l2, .int z2])), (l2, .inl (cJ2, 56, .inr (.inl fs)))] ++ (EW ea wa pf cn dp oc ic lf pt n ++ WW wa wd n)) s.heap.size q := fun q h => Or.inr h
  generalize hAe : va_A ([(xo, .inr (8, [.ref gg, .ref tr, .ref ti, .ref s2, .ref s3, .ref n2])), (gg, .inr (1, [.ref gr])), (gr, .inr (2, [.ref ce])), (ce, .inl (cG, 121, .inl fc)), (tr, .inr (5, [.ref sh])), (sh, .inr (4, [.ref ar, .int (nI n)])), (ar, .inl (cS, 40, .inr (.inr (.inr (.inr f))))), (ti, .inr (6, [.ref n1])), (n1, .inr (3, [.ref l1, .int z1])), (l1, .inl (cJ1, 401, .inr (.inl fN))), (s2, .inr (4, [.ref a2, .int (nI m)])), (a2, .inl (cS2, 40, .inr (.inr (.inr (.inr fk))))), (s3, .inr (4, [.ref a3, .int z3])), (a3, .inl (cS3, 40, .inr (.inr (.inr (.inr fr))))), (n2, .inr (3, [.ref l2, .int z2])), (l2, .inl (cJ2, 56, .inr (.inl fs)))] ++ (EW ea wa pf cn dp oc ic lf pt n ++ WW wa wd n)) s.heap.size = A at hna hD hA hZ ⊢
  have hS : va_S A s.heap s.heap [] := va_S.rf
  have hR := hR0
  have hP : va_P D vwCl ([(xo, .inr (8, [.ref gg, .ref tr, .ref ti, .ref s2, .ref s3, .ref n2])), (gg, .inr (1, [.ref gr])), (gr, .inr (2, [.ref ce])), (ce, .inl (cG, 121, .inl fc)), (tr, .inr (5, [.ref sh])), (sh, .inr (4, [.ref ar, .int (nI n)])), (ar, .inl (cS, 40, .inr (.inr (.inr (.inr f))))), (ti, .inr (6, [.ref n1])), (n1, .inr (3, [.ref l1, .int z1])), (l1, .inl (cJ1, 401, .inr (.inl fN))), (s2, .inr (4, [.ref a2, .int (nI m)])), (a2, .inl (cS2, 40, .inr (.inr (.inr (.inr fk))))), (s3, .inr (4, [.ref a3, .int z3])), (a3, .inl (cS3, 40, .inr (.inr (.inr (.inr fr))))), (n2, .inr (3, [.ref l2, .int z2])), (l2, .inl (cJ2, 56, .inr (.inl fs)))] ++ (EW ea wa pf cn dp oc ic lf pt n ++ WW wa wd n)) s.heap := hP
  have hl := lv_entry ([.ref xo, .long (lN a)]) (n := 4) (Nat.le_of_ble_eq_true rfl)
  rw [lg_entry_eq]
  generalize (lg_sl ([.ref xo, .long (lN a)]) ++ List.replicate (4 - (lg_sl ([.ref xo, .long (lN a)])).length) Slot.unset).toArray = ls at hl ⊢
  have hl : lv_has ls 4 [(0, .ref xo), (1, .long (lN a))] := hl
  refine lv_aload_n hx hb dL_forget_0 rfl (lv_at hl 0 rfl) ?_
  refine lv_lload_n hx hb dL_forget_1 rfl (lv_at hl 1 rfl) ?_
  have hF := q_freeT (X := [(xo, .inr (8, [.ref gg, .ref tr, .ref ti, .ref s2, .ref s3, .ref n2])), (gg, .inr (1, [.ref gr])), (gr, .inr (2, [.ref ce])), (ce, .inl (cG, 121, .inl fc)), (tr, .inr (5, [.ref sh])), (sh, .inr (4, [.ref ar, .int (nI n)])), (ar, .inl (cS, 40, .inr (.inr (.inr (.inr f))))), (ti, .inr (6, [.ref n1])), (n1, .inr (3, [.ref l1, .int z1])), (l1, .inl (cJ1, 401, .inr (.inl fN))), (s2, .inr (4, [.ref a2, .int (nI m)])), (a2, .inl (cS2, 40, .inr (.inr (.inr (.inr fk))))), (s3, .inr (4, [.ref a3, .int z3])), (a3, .inl (cS3, 40, .inr (.inr (.inr (.inr fr))))), (n2, .inr (3, [.ref l2, .int z2])), (l2, .inl (cJ2, 56, .inr (.inl fs)))]) (T := (EW ea wa pf cn dp oc ic lf pt n ++ WW wa wd n)) (cx := [(s2, .inr (4, [.ref a2, .int (nI m)])), (a2, .inl (cS2, 40, .inr (.inr (.inr (.inr fk)))))]) hD hS hA [10, 11] rfl
  refine vx_calli (vx_runV (As := [.long (lN a)]) (rest := []) ⟨hx, hb, hml, hown, hts⟩ (c_X9_forget (l := l) (D := D) (xo := xo) (gg := gg) (gr := gr) (ce := ce) (tr := tr) (sh := sh) (ar := ar) (ti := ti) (n1 := n1) (l1 := l1) (s2 := s2) (a2 := a2) (s3 := s3) (a3 := a3) (n2 := n2) (l2 := l2) (cS := cS) (f := f) (cS2 := cS2) (fk := fk) (m := m) (ki := ki) (ea := ea) (wa := wa) (pf := pf) (cn := cn) (dp := dp) (oc := oc) (ic := ic) (lf := lf) (pt := pt) (wd := wd) (n := n) (a := a) (sz := s.heap.size) (hnd := (q_ndws (q_ndt (a' := [s2, a2]) (b' := [xo, tr, sh, ar]) (q_ndsw (q_ndg (l1 := [xo, gg, gr, ce, tr, sh, ar, ti, n1, l1, s2, a2, s3, a3, n2, l2] ++ (rg ea n ++ rg wa n)) (l2 := []) hD hnR hna (by rw [List.map_append, List.map_append, EW_fst, WW_fst]; rfl) rfl)) [10, 11, 0, 4, 5, 6] rfl rfl))) (hst := hst) (ha := ha) (hfe := hfe) (hn40 := hn40) (hg := hg) (hm := hm) (hf := hf) (hki := hki) (hob := hob) (hinj := hinj) (hkinj := hkinj) (hkn := hkn)) (cwV 1 hts gL_forget_X9_forget rfl rfl rfl (by decide +kernel) ⟨Nat.le_of_ble_eq_true rfl, Nat.le_of_ble_eq_true rfl⟩) ⟨qWx_blind, (va_recv hK hP (ci := 8) (q0 := 0) rfl rfl), (qWx_of (hP.sub (ws' := [(xo, .inr (8, [.ref gg, .ref tr, .ref ti, .ref s2, .ref s3, .ref n2])), (tr, .inr (5, [.ref sh])), (sh, .inr (4, [.ref ar, .int (nI n)])), (ar, .inl (cS, 40, .inr (.inr (.inr (.inr f)))))]) [0, 4, 5, 6] rfl) (va_P.app (hP.sub (ws' := [(s2, .inr (4, [.ref a2, .int (nI m)])), (a2, .inl (cS2, 40, .inr (.inr (.inr (.inr fk)))))]) [10, 11] rfl) (q_right hP)) (hK.sub (tys' := [(cS2, .object "FuzzyFens$Entry"), (cS, .object "FuzzyFens$Entry")]) [3, 1] rfl) hNw (qZ_at hZ hS (fun q h => hF q h)) hXt)⟩ rfl rfl hl.1 rfl (lv_room (Nat.le_of_ble_eq_true rfl)) dL_forget_2 ⟨Nat.le_of_ble_eq_true rfl, Nat.le_of_ble_eq_true rfl⟩) hS (fun q _ h => hF q h) hF (fun q _ h => hF q h) (fun E9 ce9 q9 u9 t9 H9 locs9 ht9 hvm9 hpx9 hBX9 hz9 hk9 hS9 hc9 hv9 hcl9 => ?_) (fun r_1 u_5 t_4 H_2 locs_3 ht hvm hr_1 hB hz1 hk1 hS => ?_)
  · skip
    obtain ⟨hE9, hW9⟩ := hBX9
    replace hW9 : va_P D vwCl ([(s2, .inr (4, [.ref a2, .int (nI m)])), (a2, .inl (cS2, 40, .inr (.inr (.inr (.inr fk)))))] ++ (EW ea wa pf cn dp oc ic lf pt n ++ WW wa wd n)) H9 := by rw [← ht9]; exact hW9
    obtain ⟨hP, hD⟩ := q_joinT (X := [(xo, .inr (8, [.ref gg, .ref tr, .ref ti, .ref s2, .ref s3, .ref n2])), (gg, .inr (1, [.ref gr])), (gr, .inr (2, [.ref ce])), (ce, .inl (cG, 121, .inl fc)), (tr, .inr (5, [.ref sh])), (sh, .inr (4, [.ref ar, .int (nI n)])), (ar, .inl (cS, 40, .inr (.inr (.inr (.inr f))))), (ti, .inr (6, [.ref n1])), (n1, .inr (3, [.ref l1, .int z1])), (l1, .inl (cJ1, 401, .inr (.inl fN))), (s2, .inr (4, [.ref a2, .int (nI m)])), (a2, .inl (cS2, 40, .inr (.inr (.inr (.inr fk))))), (s3, .inr (4, [.ref a3, .int z3])), (a3, .inl (cS3, 40, .inr (.inr (.inr (.inr fr))))), (n2, .inr (3, [.ref l2, .int z2])), (l2, .inl (cJ2, 56, .inr (.inl fs)))]) (T := (EW ea wa pf cn dp oc ic lf pt n ++ WW wa wd n)) (cx := [(s2, .inr (4, [.ref a2, .int (nI m)])), (a2, .inl (cS2, 40, .inr (.inr (.inr (.inr fk)))))]) (cx' := [(s2, .inr (4, [.ref a2, .int (nI m)])), (a2, .inl (cS2, 40, .inr (.inr (.inr (.inr fk)))))]) (T' := (EW ea wa pf cn dp oc ic lf pt n ++ WW wa wd n)) (X' := [(xo, .inr (8, [.ref gg, .ref tr, .ref ti, .ref s2, .ref s3, .ref n2])), (gg, .inr (1, [.ref gr])), (gr, .inr (2, [.ref ce])), (ce, .inl (cG, 121, .inl fc)), (tr, .inr (5, [.ref sh])), (sh, .inr (4, [.ref ar, .int (nI n)])), (ar, .inl (cS, 40, .inr (.inr (.inr (.inr f))))), (ti, .inr (6, [.ref n1])), (n1, .inr (3, [.ref l1, .int z1])), (l1, .inl (cJ1, 401, .inr (.inl fN))), (s2, .inr (4, [.ref a2, .int (nI m)])), (a2, .inl (cS2, 40, .inr (.inr (.inr (.inr fk))))), (s3, .inr (4, [.ref a3, .int z3])), (a3, .inl (cS3, 40, .inr (.inr (.inr (.inr fr))))), (n2, .inr (3, [.ref l2, .int z2])), (l2, .inl (cJ2, 56, .inr (.inl fs)))]) [10, 11] hP hD rfl rfl (by simp only [List.map_append, EW_fst, WW_fst]) hk9 hW9 rfl
    have hS := hS9
    have hR := q_ro hR0 hna hS
    rcases hE9 with ⟨rfl, hC9⟩ | ⟨rfl, hC9⟩
    · skip
      refine vx_catch (own := RL) (name := q_IA) (E := q_IA) (ce := ce9) (q := q9) hown [] ⟨0, 5, 6, 14⟩ [⟨0, 5, 10, 17⟩] (by rw [hta]; rfl) (fun z9 h9 => absurd h9 List.not_mem_nil) rfl (by decide) (hts (.classLink RL 14 "java/lang/IllegalArgumentException") (List.mem_of_getElem? (i := 1) rfl)) (va_Nw.use rfl (hXt.2.1 (q_IA, q_IA) (by decide))) hc9 hv9 hcl9 ?_
      refine W.eq (g2 := F0 mi9 6 ls [.ref q9]) rfl ?_
      refine lv_astore_n (lv' := [(3, .ref q9), (0, .ref xo), (1, .long (lN a))]) hx hb dL_forget_6 rfl hl (by decide) rfl (fun ls hl => ?_)
      refine lv_ldc (v := (-99999)) hx hb hown (hts (.constant RL 16 (-99999)) (List.mem_of_getElem? (i := 3) rfl)) dL_forget_7 ?_
      refine W.widen (k := 2) (n := 12) (Nat.le_of_ble_eq_true rfl) (Nat.le_of_ble_eq_true rfl) ?_
      exact W.iret (v := (-99999)) hx hb hr (fun t9 ht hW => ⟨⟨(-99999), (m, fk, oc), rfl, (Or.inl ⟨rfl, Or.inl hC9, rfl, rfl, rfl⟩), by show va_P D vwCl _ t9.heap; rw [ht]; exact hP⟩, hS.F ht⟩) hS.2.2 dL_forget_9
    · skip
      refine vx_catch (own := RL) (name := q_IS) (E := q_IS) (ce := ce9) (q := q9) hown [⟨0, 5, 6, 14⟩] ⟨0, 5, 10, 17⟩ [] (by rw [hta]; rfl) (fun z9 h9 => by cases List.mem_singleton.mp h9; exact Or.inr ⟨by decide, q_IA, (hts (.classLink RL 14 "java/lang/IllegalArgumentException") (List.mem_of_getElem? (i := 1) rfl)), hXt.2.2.2.2.1⟩) rfl (by decide) (hts (.classLink RL 17 "java/lang/IllegalStateException") (List.mem_of_getElem? (i := 2) rfl)) (va_Nw.use rfl (hXt.2.1 (q_IS, q_IS) (by decide))) hc9 hv9 hcl9 ?_
      refine W.eq (g2 := F0 mi9 10 ls [.ref q9]) rfl ?_
      refine lv_astore_n (lv' := [(3, .ref q9), (0, .ref xo), (1, .long (lN a))]) hx hb dL_forget_10 rfl hl (by decide) rfl (fun ls hl => ?_)
      refine lv_ldc (v := (-99999)) hx hb hown (hts (.constant RL 16 (-99999)) (List.mem_of_getElem? (i := 3) rfl)) dL_forget_11 ?_
      refine W.widen (k := 2) (n := 12) (Nat.le_of_ble_eq_true rfl) (Nat.le_of_ble_eq_true rfl) ?_
      exact W.iret (v := (-99999)) hx hb hr (fun t9 ht hW => ⟨⟨(-99999), (m, fk, oc), rfl, (Or.inl ⟨rfl, Or.inr hC9, rfl, rfl, rfl⟩), by show va_P D vwCl _ t9.heap; rw [ht]; exact hP⟩, hS.F ht⟩) hS.2.2 dL_forget_13
  skip
  obtain ⟨fk2_6, oc2_7⟩ := u_5
  dsimp only at hr_1 hB
  replace hB : va_P D vwCl ([(s2, .inr (4, [.ref a2, .int (nI (m - 1))])), (a2, .inl (cS2, 40, .inr (.inr (.inr (.inr fk2_6)))))] ++ (EW ea wa pf cn dp oc2_7 ic lf pt n ++ WW wa wd n)) H_2 := by rw [← ht]; exact hB
  obtain ⟨hP, hD⟩ := q_joinT (X := [(xo, .inr (8, [.ref gg, .ref tr, .ref ti, .ref s2, .ref s3, .ref n2])), (gg, .inr (1, [.ref gr])), (gr, .inr (2, [.ref ce])), (ce, .inl (cG, 121, .inl fc)), (tr, .inr (5, [.ref sh])), (sh, .inr (4, [.ref ar, .int (nI n)])), (ar, .inl (cS, 40, .inr (.inr (.inr (.inr f))))), (ti, .inr (6, [.ref n1])), (n1, .inr (3, [.ref l1, .int z1])), (l1, .inl (cJ1, 401, .inr (.inl fN))), (s2, .inr (4, [.ref a2, .int (nI m)])), (a2, .inl (cS2, 40, .inr (.inr (.inr (.inr fk))))), (s3, .inr (4, [.ref a3, .int z3])), (a3, .inl (cS3, 40, .inr (.inr (.inr (.inr fr))))), (n2, .inr (3, [.ref l2, .int z2])), (l2, .inl (cJ2, 56, .inr (.inl fs)))]) (T := (EW ea wa pf cn dp oc ic lf pt n ++ WW wa wd n)) (cx := [(s2, .inr (4, [.ref a2, .int (nI m)])), (a2, .inl (cS2, 40, .inr (.inr (.inr (.inr fk)))))]) (cx' := [(s2, .inr (4, [.ref a2, .int (nI (m - 1))])), (a2, .inl (cS2, 40, .inr (.inr (.inr (.inr fk2_6)))))]) (T' := (EW ea wa pf cn dp oc2_7 ic lf pt n ++ WW wa wd n)) (X' := [(xo, .inr (8, [.ref gg, .ref tr, .ref ti, .ref s2, .ref s3, .ref n2])), (gg, .inr (1, [.ref gr])), (gr, .inr (2, [.ref ce])), (ce, .inl (cG, 121, .inl fc)), (tr, .inr (5, [.ref sh])), (sh, .inr (4, [.ref ar, .int (nI n)])), (ar, .inl (cS, 40, .inr (.inr (.inr (.inr f))))), (ti, .inr (6, [.ref n1])), (n1, .inr (3, [.ref l1, .int z1])), (l1, .inl (cJ1, 401, .inr (.inl fN))), (s2, .inr (4, [.ref a2, .int (nI (m - 1))])), (a2, .inl (cS2, 40, .inr (.inr (.inr (.inr fk2_6))))), (s3, .inr (4, [.ref a3, .int z3])), (a3, .inl (cS3, 40, .inr (.inr (.inr (.inr fr))))), (n2, .inr (3, [.ref l2, .int z2])), (l2, .inl (cJ2, 56, .inr (.inl fs)))]) [10, 11] hP hD rfl rfl (by simp only [List.map_append, EW_fst, WW_fst]) hk1 hB rfl
  have hR := q_ro hR0 hna hS
  obtain ⟨hF80, hF81⟩ := hr_1
  obtain ⟨i8, p8, g1, g2, g3, g4, g5, g6, g7⟩ := hF81
  refine W.widen (k := 2) (n := 12) (Nat.le_of_ble_eq_true rfl) (Nat.le_of_ble_eq_true rfl) ?_
  exact W.iret (v := r_1) hx hb hr (fun t9 ht hW => ⟨⟨r_1, (m - 1, fk2_6, oc2_7), rfl, (Or.inr ⟨hF80, i8, p8, g1, g2, g3, g4, g5, rfl, g6, g7⟩), by show va_P D vwCl _ t9.heap; rw [ht]; exact hP⟩, hS.F ht⟩) hS.2.2 dL_forget_5

set_option maxHeartbeats 4000000 in
set_option maxRecDepth 100000 in
/-- law: add -/
theorem c_L_add (l : Launch) (D : va_G) (sz : Nat) (xo : Nat) (gg : Nat) (gr : Nat) (ce : Nat) (tr : Nat) (sh : Nat) (ar : Nat) (ti : Nat) (n1 : Nat) (l1 : Nat) (s2 : Nat) (a2 : Nat) (s3 : Nat) (a3 : Nat) (n2 : Nat) (l2 : Nat) (cG : ClassId) (fc : Nat → Int32) (cS : ClassId) (f : Nat → Option Nat) (cJ1 : ClassId) (fN : Nat → Int64) (z1 : Int32) (cS2 : ClassId) (fk : Nat → Option Nat) (m : Nat) (ki : Nat → Nat) (cS3 : ClassId) (fr : Nat → Option Nat) (z3 : Int32) (cJ2 : ClassId) (fs : Nat → Int64) (z2 : Int32) (ea : Nat → Nat) (wa : Nat → Nat) (pf : Nat → Option Nat) (cn : Nat → Nat) (dp : Nat → Nat) (oc : Nat → Nat) (ic : Nat → Int32) (lf : Nat → Int32) (pt : Nat → Int32) (wd : Nat → Nat) (n : Nat) (pi : Nat → Option Nat) (a : Nat) (x9 : Int32) (hst : l.stackTraces = false) (hnd : (([xo, gg, gr, ce, tr, sh, ar, ti, n1, l1, s2, a2, s3, a3, n2, l2] ++ (rg ea n ++ rg wa n)) ++ []).Nodup) (ha : a < 2 ^ 64) (hfe : ∀ j, j < n → f j = some (ea j)) (hn40 : n ≤ 40) (hg : ∀ k, k < n → gw (wd k)) (hm : m ≤ 40) (hf : ∀ j, j < m → fk j = some (ea (ki j))) (hki : ∀ j, j < m → ki j < n) (hob : ∀ k, k < n → oc k ≤ 1000000) (hinj : ∀ i j, i < n → j < n → ea i = ea j → i = j) (hpi : ∀ k, k < n → pf k = (pi k).map ea) (hpn : ∀ k i, k < n → pi k = some i → i < k) (hcb : ∀ k, k < n → cn k ≤ 20) (hmn : m ≤ n) (hmz : ∀ i, i < n → oc i = 0 → m < n) : Met l yL_add wsL_add { frames := 8, cells := 3, slots := 20, locals := 145 } (va_Pc [.ref xo, .long (lN a), .int x9] (qWx D sz ([]) ([(xo, .inr (8, [.ref gg, .ref tr, .ref ti, .ref s2, .ref s3, .ref n2])), (gg, .inr (1, [.ref gr])), (gr, .inr (2, [.ref ce])), (ce, .inl (cG, 121, .inl fc)), (tr, .inr (5, [.ref sh])), (sh, .inr (4, [.ref ar, .int (nI n)])), (ar, .inl (cS, 40, .inr (.inr (.inr (.inr f))))), (ti, .inr (6, [.ref n1])), (n1, .inr (3, [.ref l1, .int z1])), (l1, .inl (cJ1, 401, .inr (.inl fN))), (s2, .inr (4, [.ref a2, .int (nI m)])), (a2, .inl (cS2, 40, .inr (.inr (.inr (.inr fk))))), (s3, .inr (4, [.ref a3, .int z3])), (a3, .inl (cS3, 40, .inr (.inr (.inr (.inr fr))))), (n2, .inr (3, [.ref l2, .int z2])), (l2, .inl (cJ2, 56, .inr (.inl fs)))] ++ (EW ea wa pf cn dp oc ic lf pt n ++ WW wa wd n)) [(cG, .int), (cS, .object "FuzzyFens$Entry"), (cJ1, .long), (cS2, .object "FuzzyFens$Entry"), (cS3, .object "FuzzyFens$Entry"), (cJ2, .long)])) (va_Qi (fun (rv : Int32) (uv : (Nat) × (Nat → Option Nat) × (Nat) × (Nat → Option Nat) × (Nat → Nat) × (Nat → Int32) × (Nat → Nat) × (Nat → Nat) × (Nat → Option Nat) × (Nat → Nat) × (Nat → Nat) × (Nat → Nat) × (Nat → Int32) × (Nat → Int32) × (Nat → Int32) × (Nat → Nat)) => ((rv = (-99999) ∧ ((¬ (gw a ∧ nI 1 ≤ x9 ∧ x9 ≤ nI 1000)) ∨ ((gw a ∧ nI 1 ≤ x9 ∧ x9 ≤ nI 1000) ∧ ((ffi (fun k => decide (wd k = a)) n = none ∧ n = 40) ∨ ∃ i, ffi (fun k => decide (wd k = a)) n = some i ∧ 1000000 < oc i + kz x9))) ∧ uv.1 = n ∧ uv.2.1 = f ∧ uv.2.2.1 = m ∧ uv.2.2.2.1 = fk ∧ uv.2.2.2.2.1 = ki ∧ uv.2.2.2.2.2.2.1 = ea ∧ uv.2.2.2.2.2.2.2.1 = wa ∧ uv.2.2.2.2.2.2.2.2.1 = pf ∧ uv.2.2.2.2.2.2.2.2.2.1 = cn ∧ uv.2.2.2.2.2.2.2.2.2.2.1 = dp ∧ uv.2.2.2.2.2.2.2.2.2.2.2.1 = oc ∧ uv.2.2.2.2.2.2.2.2.2.2.2.2.2.2.2 = wd) ∨ ((gw a ∧ nI 1 ≤ x9 ∧ x9 ≤ nI 1000) ∧ ((∃ i, ffi (fun k => decide (wd k = a)) n = some i ∧ oc i + kz x9 ≤ 1000000 ∧ rv = nI (oc i + kz x9) ∧ uv.1 = n ∧ uv.2.1 = f ∧ uv.2.2.2.2.2.2.1 = ea ∧ uv.2.2.2.2.2.2.2.2.1 = pf ∧ uv.2.2.2.2.2.2.2.2.2.1 = cn ∧ uv.2.2.2.2.2.2.2.2.2.2.1 = dp ∧ uv.2.2.2.2.2.2.2.2.2.2.2.2.2.2.2 = wd ∧ uv.2.2.2.2.2.2.2.2.2.2.2.1 = va_up oc i (oc i + kz x9) ∧ ((0 < oc i ∧ uv.2.2.1 = m ∧ uv.2.2.2.1 = fk ∧ uv.2.2.2.2.1 = ki) ∨ (oc i = 0 ∧ uv.2.2.1 = m + 1 ∧ uv.2.2.2.2.1 = insF ki (cnt (fun j => decide (al (wd (ki j)) < al (wd i))) m) i ∧ ∀ j, j < m + 1 → uv.2.2.2.1 j = some (ea (uv.2.2.2.2.1 j))))) ∨ (ffi (fun k => decide (wd k = a)) n = none ∧ n < 40 ∧ rv = nI (kz x9) ∧ uv.1 = n + 1 ∧ uv.2.2.1 = m + 1 ∧ (∀ k, k < n → uv.2.2.2.2.2.2.1 k = ea k ∧ uv.2.2.2.2.2.2.2.2.1 k = pf k ∧ uv.2.2.2.2.2.2.2.2.2.1 k = cn k ∧ uv.2.2.2.2.2.2.2.2.2.2.1 k = dp k ∧ uv.2.2.2.2.2.2.2.2.2.2.2.1 k = oc k ∧ uv.2.2.2.2.2.2.2.2.2.2.2.2.2.2.2 k = wd k) ∧ uv.2.2.2.2.2.2.2.2.2.2.2.1 n = kz x9 ∧ uv.2.2.2.2.2.2.2.2.2.2.2.2.2.2.2 n = a ∧ ((n = 0 ∧ uv.2.2.2.2.2.2.2.2.1 n = none ∧ uv.2.2.2.2.2.2.2.2.2.1 n = 0 ∧ uv.2.2.2.2.2.2.2.2.2.2.1 n = 0) ∨ (0 < n ∧ uv.2.2.2.2.2.2.2.2.1 n = some (ea (plw (chf wd pi cn a n) n 0)) ∧ uv.2.2.2.2.2.2.2.2.2.1 n = dst wd a (plw (chf wd pi cn a n) n 0) ∧ uv.2.2.2.2.2.2.2.2.2.2.1 n = dp (plw (chf wd pi cn a n) n 0) + 1)) ∧ (∀ j, j < n + 1 → uv.2.1 j = some (uv.2.2.2.2.2.2.1 j)) ∧ uv.2.2.2.2.1 = insF ki (cnt (fun j => decide (al (uv.2.2.2.2.2.2.2.2.2.2.2.2.2.2.2 (ki j)) < al (uv.2.2.2.2.2.2.2.2.2.2.2.2.2.2.2 n))) m) n ∧ ∀ j, j < m + 1 → uv.2.2.2.1 j = some (uv.2.2.2.2.2.2.1 (uv.2.2.2.2.1 j))))))) (fun (uv : (Nat) × (Nat → Option Nat) × (Nat) × (Nat → Option Nat) × (Nat → Nat) × (Nat → Int32) × (Nat → Nat) × (Nat → Nat) × (Nat → Option Nat) × (Nat → Nat) × (Nat → Nat) × (Nat → Nat) × (Nat → Int32) × (Nat → Int32) × (Nat → Int32) × (Nat → Nat)) (tv : State) => va_P D vwCl ([(xo, .inr (8, [.ref gg, .ref tr, .ref ti, .ref s2, .ref s3, .ref n2])), (gg, .inr (1, [.ref gr])), (gr, .inr (2, [.ref ce])), (ce, .inl (cG, 121, .inl uv.2.2.2.2.2.1)), (tr, .inr (5, [.ref sh])), (sh, .inr (4, [.ref ar, .int (nI uv.1)])), (ar, .inl (cS, 40, .inr (.inr (.inr (.inr uv.2.1))))), (ti, .inr (6, [.ref n1])), (n1, .inr (3, [.ref l1, .int z1])), (l1, .inl (cJ1, 401, .inr (.inl fN))), (s2, .inr (4, [.ref a2, .int (nI uv.2.2.1)])), (a2, .inl (cS2, 40, .inr (.inr (.inr (.inr uv.2.2.2.1))))), (s3, .inr (4, [.ref a3, .int z3])), (a3, .inl (cS3, 40, .inr (.inr (.inr (.inr fr))))), (n2, .inr (3, [.ref l2, .int z2])), (l2, .inl (cJ2, 56, .inr (.inl fs)))] ++ (EW uv.2.2.2.2.2.2.1 uv.2.2.2.2.2.2.2.1 uv.2.2.2.2.2.2.2.2.1 uv.2.2.2.2.2.2.2.2.2.1 uv.2.2.2.2.2.2.2.2.2.2.1 uv.2.2.2.2.2.2.2.2.2.2.2.1 uv.2.2.2.2.2.2.2.2.2.2.2.2.1 uv.2.2.2.2.2.2.2.2.2.2.2.2.2.1 uv.2.2.2.2.2.2.2.2.2.2.2.2.2.2.1 uv.1 ++ WW uv.2.2.2.2.2.2.2.1 uv.2.2.2.2.2.2.2.2.2.2.2.2.2.2.2 uv.1)) tv.heap ∧ va_D (va_A ([(xo, .inr (8, [.ref gg, .ref tr, .ref ti, .ref s2, .ref s3, .ref n2])), (gg, .inr (1, [.ref gr])), (gr, .inr (2, [.ref ce])), (ce, .inl (cG, 121, .inl fc)), (tr, .inr (5, [.ref sh])), (sh, .inr (4, [.ref ar, .int (nI n)])), (ar, .inl (cS, 40, .inr (.inr (.inr (.inr f))))), (ti, .inr (6, [.ref n1])), (n1, .inr (3, [.ref l1, .int z1])), (l1, .inl (cJ1, 401, .inr (.inl fN))), (s2, .inr (4, [.ref a2, .int (nI m)])), (a2, .inl (cS2, 40, .inr (.inr (.inr (.inr fk))))), (s3, .inr (4, [.ref a3, .int z3])), (a3, .inl (cS3, 40, .inr (.inr (.inr (.inr fr))))), (n2, .inr (3, [.ref l2, .int z2])), (l2, .inl (cJ2, 56, .inr (.inl fs)))] ++ (EW ea wa pf cn dp oc ic lf pt n ++ WW wa wd n)) sz) ([(xo, .inr (8, [.ref gg, .ref tr, .ref ti, .ref s2, .ref s3, .ref n2])), (gg, .inr (1, [.ref gr])), (gr, .inr (2, [.ref ce])), (ce, .inl (cG, 121, .inl uv.2.2.2.2.2.1)), (tr, .inr (5, [.ref sh])), (sh, .inr (4, [.ref ar, .int (nI uv.1)])), (ar, .inl (cS, 40, .inr (.inr (.inr (.inr uv.2.1))))), (ti, .inr (6, [.ref n1])), (n1, .inr (3, [.ref l1, .int z1])), (l1, .inl (cJ1, 401, .inr (.inl fN))), (s2, .inr (4, [.ref a2, .int (nI uv.2.2.1)])), (a2, .inl (cS2, 40, .inr (.inr (.inr (.inr uv.2.2.2.1))))), (s3, .inr (4, [.ref a3, .int z3])), (a3, .inl (cS3, 40, .inr (.inr (.inr (.inr fr))))), (n2, .inr (3, [.ref l2, .int z2])), (l2, .inl (cJ2, 56, .inr (.inl fs)))] ++ (EW uv.2.2.2.2.2.2.1 uv.2.2.2.2.2.2.2.1 uv.2.2.2.2.2.2.2.2.1 uv.2.2.2.2.2.2.2.2.2.1 uv.2.2.2.2.2.2.2.2.2.2.1 uv.2.2.2.2.2.2.2.2.2.2.2.1 uv.2.2.2.2.2.2.2.2.2.2.2.2.1 uv.2.2.2.2.2.2.2.2.2.2.2.2.2.1 uv.2.2.2.2.2.2.2.2.2.2.2.2.2.2.1 uv.1 ++ WW uv.2.2.2.2.2.2.2.1 uv.2.2.2.2.2.2.2.2.2.2.2.2.2.2.2 uv.1))) (va_A ([(xo, .inr (8, [.ref gg, .ref tr, .ref ti, .ref s2, .ref s3, .ref n2])), (gg, .inr (1, [.ref gr])), (gr, .inr (2, [.ref ce])), (ce, .inl (cG, 121, .inl fc)), (tr, .inr (5, [.ref sh])), (sh, .inr (4, [.ref ar, .int (nI n)])), (ar, .inl (cS, 40, .inr (.inr (.inr (.inr f))))), (ti, .inr (6, [.ref n1])), (n1, .inr (3, [.ref l1, .int z1])), (l1, .inl (cJ1, 401, .inr (.inl fN))), (s2, .inr (4, [.ref a2, .int (nI m)])), (a2, .inl (cS2, 40, .inr (.inr (.inr (.inr fk))))), (s3, .inr (4, [.ref a3, .int z3])), (a3, .inl (cS3, 40, .inr (.inr (.inr (.inr fr))))), (n2, .inr (3, [.ref l2, .int z2])), (l2, .inl (cJ2, 56, .inr (.inl fs)))] ++ (EW ea wa pf cn dp oc ic lf pt n ++ WW wa wd n)) sz)) 3 20 (va_A ([(xo, .inr (8, [.ref gg, .ref tr, .ref ti, .ref s2, .ref s3, .ref n2])), (gg, .inr (1, [.ref gr])), (gr, .inr (2, [.ref ce])), (ce, .inl (cG, 121, .inl fc)), (tr, .inr (5, [.ref sh])), (sh, .inr (4, [.ref ar, .int (nI n)])), (ar, .inl (cS, 40, .inr (.inr (.inr (.inr f))))), (ti, .inr (6, [.ref n1])), (n1, .inr (3, [.ref l1, .int z1])), (l1, .inl (cJ1, 401, .inr (.inl fN))), (s2, .inr (4, [.ref a2, .int (nI m)])), (a2, .inl (cS2, 40, .inr (.inr (.inr (.inr fk))))), (s3, .inr (4, [.ref a3, .int z3])), (a3, .inl (cS3, 40, .inr (.inr (.inr (.inr fr))))), (n2, .inr (3, [.ref l2, .int z2])), (l2, .inl (cJ2, 56, .inr (.inl fs)))] ++ (EW ea wa pf cn dp oc ic lf pt n ++ WW wa wd n)) sz) := by
  refine va_MetW (cc := cL_add) (maxL := 5) (ret := (some .int)) (hh := [(0, 6, 7, 14), (0, 6, 12, 17)]) (by decide) rfl ?_
  intro pM eM s mi9 argsM belowM methM cM sM B hml hv
  obtain ⟨rfl, hsz, hR0, hP, hK, hNw, hZ, hXt⟩ := hv
  have hx := B.exec
  have hb := B.bytes
  have hr := B.returns
  have hts := atoms_spec (ws := wsL_add) B.pre
  have hta : cM.exceptionTable.toList = tableOf [(0, 6, 7, 14), (0, 6, 12, 17)] := vx_table (x := yL_add) B (hts (.codeWith yL_add cL_add 5 (some .int) [(0, 6, 7, 14), (0, 6, 12, 17)]) (List.mem_of_getElem? (i := 0) rfl))
  have hown : s.vm.findClass RL = some mi9.cls := findClass_of_methodNamed B.named
  have hlocks := B.notSynchronized
  subst hsz
  have hna := q_na (RW := ([(xo, .inr (8, [.ref gg, .ref tr, .ref ti, .ref s2, .ref s3, .ref n2])), (gg, .inr (1, [.ref gr])), (gr, .inr (2, [.ref ce])), (ce, .inl (cG, 121, .inl fc)), (tr, .inr (5, [.ref sh])), (sh, .inr (4, [.ref ar, .int (nI n)])), (ar, .inl (cS, 40, .inr (.inr (.inr (.inr f))))), (ti, .inr (6, [.ref n1])), (n1, .inr (3, [.ref l1, .int z1])), (l1, .inl (cJ1, 401, .inr (.inl fN))), (s2, .inr (4, [.ref a2, .int (nI m)])), (a2, .inl (cS2, 40, .inr (.inr (.inr (.inr fk))))), (s3, .inr (4, [.ref a3, .int z3])), (a3, .inl (cS3, 40, .inr (.inr (.inr (.inr fr))))), (n2, .inr (3, [.ref l2, .int z2])), (l2, .inl (cJ2, 56, .inr (.inl fs)))] ++ (EW ea wa pf cn dp oc ic lf pt n ++ WW wa wd n))) (RO := []) hnd (by rw [List.map_append, List.map_append, EW_fst, WW_fst]; rfl) rfl hR0
  have hD := q_D (RW := ([(xo, .inr (8, [.ref gg, .ref tr, .ref ti, .ref s2, .ref s3, .ref n2])), (gg, .inr (1, [.ref gr])), (gr, .inr (2, [.ref ce])), (ce, .inl (cG, 121, .inl fc)), (tr, .inr (5, [.ref sh])), (sh, .inr (4, [.ref ar, .int (nI n)])), (ar, .inl (cS, 40, .inr (.inr (.inr (.inr f))))), (ti, .inr (6, [.ref n1])), (n1, .inr (3, [.ref l1, .int z1])), (l1, .inl (cJ1, 401, .inr (.inl fN))), (s2, .inr (4, [.ref a2, .int (nI m)])), (a2, .inl (cS2, 40, .inr (.inr (.inr (.inr fk))))), (s3, .inr (4, [.ref a3, .int z3])), (a3, .inl (cS3, 40, .inr (.inr (.inr (.inr fr))))), (n2, .inr (3, [.ref l2, .int z2])), (l2, .inl (cJ2, 56, .inr (.inl fs)))] ++ (EW ea wa pf cn dp oc ic lf pt n ++ WW wa wd n))) (sz := s.heap.size) hnd (by rw [List.map_append, List.map_append, EW_fst, WW_fst]; rfl)
  have hnR : (([] : va_W).map (·.1)).Nodup := by rw [show ([] : va_W).map (·.1) = [] from rfl]; exact (List.nodup_append.mp hnd).2.1
  have hA : ∀ q : Nat, s.heap.size ≤ q → va_A ([(xo, .inr (8, [.ref gg, .ref tr, .ref ti, .ref s2, .ref s3, .ref n2])), (gg, .inr (1, [.ref gr])), (gr, .inr (2, [.ref ce])), (ce, .inl (cG, 121, .inl fc)), (tr, .inr (5, [.ref sh])), (sh, .inr (4, [.ref ar, .int (nI n)])), (ar, .inl (cS, 40, .inr (.inr (.inr (.inr f))))), (ti, .inr (6, [.ref n1])), (n1, .inr (3, [.ref l1, .int z1])), (l1, .inl (cJ1, 401, .inr (.inl fN))), (s2, .inr (4, [.ref a2, .int (nI m)])), (a2, .inl (cS2, 40, .inr (.inr (.inr (.inr fk))))), (s3, .inr (4, [.ref a3, .int z3])), (a3, .inl (cS3, 40, .inr (.inr (.inr (.inr fr))))), (n2, .inr (3, [.ref l2, .int z2])), (l2, .inl (cJ2, 56, .inr (.inl fs)))] ++ (EW ea wa pf cn dp oc ic lf pt n ++ WW wa wd n)) s.heap.size q := fun q h => Or.inr h
  generalize hAe : va_A ([(xo, .inr (8, [.ref gg, .ref tr, .ref ti, .ref s2, .ref s3, .ref n2])), (gg, .inr (1, [.ref gr])), (gr, .inr (2, [.ref ce])), (ce, .inl (cG, 121, .inl fc)), (tr, .inr (5, [.ref sh])), (sh, .inr (4, [.ref ar, .int (nI n)])), (ar, .inl (cS, 40, .inr (.inr (.inr (.inr f))))), (ti, .inr (6, [.ref n1])), (n1, .inr (3, [.ref l1, .int z1])), (l1, .inl (cJ1, 401, .inr (.inl fN))), (s2, .inr (4, [.ref a2, .int (nI m)])), (a2, .inl (cS2, 40, .inr (.inr (.inr (.inr fk))))), (s3, .inr (4, [.ref a3, .int z3])), (a3, .inl (cS3, 40, .inr (.inr (.inr (.inr fr))))), (n2, .inr (3, [.ref l2, .int z2])), (l2, .inl (cJ2, 56, .inr (.inl fs)))] ++ (EW ea wa pf cn dp oc ic lf pt n ++ WW wa wd n)) s.heap.size = A at hna hD hA hZ ⊢
  have hS : va_S A s.heap s.heap [] := va_S.rf
  have hR := hR0
  have hP : va_P D vwCl ([(xo, .inr (8, [.ref gg, .ref tr, .ref ti, .ref s2, .ref s3, .ref n2])), (gg, .inr (1, [.ref gr])), (gr, .inr (2, [.ref ce])), (ce, .inl (cG, 121, .inl fc)), (tr, .inr (5, [.ref sh])), (sh, .inr (4, [.ref ar, .int (nI n)])), (ar, .inl (cS, 40, .inr (.inr (.inr (.inr f))))), (ti, .inr (6, [.ref n1])), (n1, .inr (3, [.ref l1, .int z1])), (l1, .inl (cJ1, 401, .inr (.inl fN))), (s2, .inr (4, [.ref a2, .int (nI m)])), (a2, .inl (cS2, 40, .inr (.inr (.inr (.inr fk))))), (s3, .inr (4, [.ref a3, .int z3])), (a3, .inl (cS3, 40, .inr (.inr (.inr (.inr fr))))), (n2, .inr (3, [.ref l2, .int z2])), (l2, .inl (cJ2, 56, .inr (.inl fs)))] ++ (EW ea wa pf cn dp oc ic lf pt n ++ WW wa wd n)) s.heap := hP
  have hl := lv_entry ([.ref xo, .long (lN a), .int x9]) (n := 5) (Nat.le_of_ble_eq_true rfl)
  rw [lg_entry_eq]
  generalize (lg_sl ([.ref xo, .long (lN a), .int x9]) ++ List.replicate (5 - (lg_sl ([.ref xo, .long (lN a), .int x9])).length) Slot.unset).toArray = ls at hl ⊢
  have hl : lv_has ls 5 [(0, .ref xo), (1, .long (lN a)), (3, .int x9)] := hl
  refine lv_aload_n hx hb dL_add_0 rfl (lv_at hl 0 rfl) ?_
  refine lv_lload_n hx hb dL_add_1 rfl (lv_at hl 1 rfl) ?_
  refine lv_iload_n hx hb dL_add_2 rfl (lv_at hl 2 rfl) ?_
  have hF := q_freeT (X := [(xo, .inr (8, [.ref gg, .ref tr, .ref ti, .ref s2, .ref s3, .ref n2])), (gg, .inr (1, [.ref gr])), (gr, .inr (2, [.ref ce])), (ce, .inl (cG, 121, .inl fc)), (tr, .inr (5, [.ref sh])), (sh, .inr (4, [.ref ar, .int (nI n)])), (ar, .inl (cS, 40, .inr (.inr (.inr (.inr f))))), (ti, .inr (6, [.ref n1])), (n1, .inr (3, [.ref l1, .int z1])), (l1, .inl (cJ1, 401, .inr (.inl fN))), (s2, .inr (4, [.ref a2, .int (nI m)])), (a2, .inl (cS2, 40, .inr (.inr (.inr (.inr fk))))), (s3, .inr (4, [.ref a3, .int z3])), (a3, .inl (cS3, 40, .inr (.inr (.inr (.inr fr))))), (n2, .inr (3, [.ref l2, .int z2])), (l2, .inl (cJ2, 56, .inr (.inl fs)))]) (T := (EW ea wa pf cn dp oc ic lf pt n ++ WW wa wd n)) (cx := [(sh, .inr (4, [.ref ar, .int (nI n)])), (ar, .inl (cS, 40, .inr (.inr (.inr (.inr f))))), (s2, .inr (4, [.ref a2, .int (nI m)])), (a2, .inl (cS2, 40, .inr (.inr (.inr (.inr fk))))), (ce, .inl (cG, 121, .inl fc))]) hD hS hA [5, 6, 10, 11, 3] rfl
  refine vx_calli (vx_runV (As := [.long (lN a), .int x9]) (rest := []) ⟨hx, hb, hml, hown, hts⟩ (c_X9_add_g (l := l) (D := D) (xo := xo) (gg := gg) (gr := gr) (ce := ce) (tr := tr) (sh := sh) (ar := ar) (ti := ti) (n1 := n1) (l1 := l1) (s2 := s2) (a2 := a2) (s3 := s3) (a3 := a3) (n2 := n2) (l2 := l2) (cS := cS) (f := f) (cS2 := cS2) (fk := fk) (m := m) (ki := ki) (cG := cG) (fc := fc) (ea := ea) (wa := wa) (pf := pf) (cn := cn) (dp := dp) (oc := oc) (ic := ic) (lf := lf) (pt := pt) (wd := wd) (n := n) (pi := pi) (a := a) (x9 := x9) (sz := s.heap.size) (hnd := (q_ndws (q_ndt (a' := [sh, ar, s2, a2, ce]) (b' := [xo, gg, gr, tr]) (q_ndsw (q_ndg (l1 := [xo, gg, gr, ce, tr, sh, ar, ti, n1, l1, s2, a2, s3, a3, n2, l2] ++ (rg ea n ++ rg wa n)) (l2 := []) hD hnR hna (by rw [List.map_append, List.map_append, EW_fst, WW_fst]; rfl) rfl)) [5, 6, 10, 11, 3, 0, 1, 2, 4] rfl rfl))) (hst := hst) (ha := ha) (hfe := hfe) (hn40 := hn40) (hg := hg) (hm := hm) (hf := hf) (hki := hki) (hob := hob) (hinj := hinj) (hpi := hpi) (hpn := hpn) (hcb := hcb) (hmn := hmn) (hmz := hmz)) (cwV 2 hts gL_add_X9_add rfl rfl rfl (by decide +kernel) ⟨Nat.le_of_ble_eq_true rfl, Nat.le_of_ble_eq_true rfl⟩) ⟨qWx_blind, (va_recv hK hP (ci := 8) (q0 := 0) rfl rfl), (qWx_of (hP.sub (ws' := [(xo, .inr (8, [.ref gg, .ref tr, .ref ti, .ref s2, .ref s3, .ref n2])), (gg, .inr (1, [.ref gr])), (gr, .inr (2, [.ref ce])), (tr, .inr (5, [.ref sh]))]) [0, 1, 2, 4] rfl) (va_P.app (hP.sub (ws' := [(sh, .inr (4, [.ref ar, .int (nI n)])), (ar, .inl (cS, 40, .inr (.inr (.inr (.inr f))))), (s2, .inr (4, [.ref a2, .int (nI m)])), (a2, .inl (cS2, 40, .inr (.inr (.inr (.inr fk))))), (ce, .inl (cG, 121, .inl fc))]) [5, 6, 10, 11, 3] rfl) (q_right hP)) (hK.sub (tys' := [(cS, .object "FuzzyFens$Entry"), (cS2, .object "FuzzyFens$Entry"), (cG, .int)]) [1, 3, 0] rfl) hNw (qZ_at hZ hS (fun q h => hF q h)) hXt)⟩ rfl rfl hl.1 rfl (lv_room (Nat.le_of_ble_eq_true rfl)) dL_add_3 ⟨Nat.le_of_ble_eq_true rfl, Nat.le_of_ble_eq_true rfl⟩) hS (fun q _ h => hF q h) hF (fun q _ h => hF q h) (fun E9 ce9 q9 u9 t9 H9 locs9 ht9 hvm9 hpx9 hBX9 hz9 hk9 hS9 hc9 hv9 hcl9 => ?_) (fun r_1 u_5 t_4 H_2 locs_3 ht hvm hr_1 hB hz1 hk1 hS => ?_)
  · skip
    obtain ⟨hE9, hW9⟩ := hBX9
    replace hW9 : va_P D vwCl ([(sh, .inr (4, [.ref ar, .int (nI n)])), (ar, .inl (cS, 40, .inr (.inr (.inr (.inr f))))), (s2, .inr (4, [.ref a2, .int (nI m)])), (a2, .inl (cS2, 40, .inr (.inr (.inr (.inr fk))))), (ce, .inl (cG, 121, .inl fc))] ++ (EW ea wa pf cn dp oc ic lf pt n ++ WW wa wd n)) H9 := by rw [← ht9]; exact hW9
    obtain ⟨hP, hD⟩ := q_joinT (X := [(xo, .inr (8, [.ref gg, .ref tr, .ref ti, .ref s2, .ref s3, .ref n2])), (gg, .inr (1, [.ref gr])), (gr, .inr (2, [.ref ce])), (ce, .inl (cG, 121, .inl fc)), (tr, .inr (5, [.ref sh])), (sh, .inr (4, [.ref ar, .int (nI n)])), (ar, .inl (cS, 40, .inr (.inr (.inr (.inr f))))), (ti, .inr (6, [.ref n1])), (n1, .inr (3, [.ref l1, .int z1])), (l1, .inl (cJ1, 401, .inr (.inl fN))), (s2, .inr (4, [.ref a2, .int (nI m)])), (a2, .inl (cS2, 40, .inr (.inr (.inr (.inr fk))))), (s3, .inr (4, [.ref a3, .int z3])), (a3, .inl (cS3, 40, .inr (.inr (.inr (.inr fr))))), (n2, .inr (3, [.ref l2, .int z2])), (l2, .inl (cJ2, 56, .inr (.inl fs)))]) (T := (EW ea wa pf cn dp oc ic lf pt n ++ WW wa wd n)) (cx := [(sh, .inr (4, [.ref ar, .int (nI n)])), (ar, .inl (cS, 40, .inr (.inr (.inr (.inr f))))), (s2, .inr (4, [.ref a2, .int (nI m)])), (a2, .inl (cS2, 40, .inr (.inr (.inr (.inr fk))))), (ce, .inl (cG, 121, .inl fc))]) (cx' := [(sh, .inr (4, [.ref ar, .int (nI n)])), (ar, .inl (cS, 40, .inr (.inr (.inr (.inr f))))), (s2, .inr (4, [.ref a2, .int (nI m)])), (a2, .inl (cS2, 40, .inr (.inr (.inr (.inr fk))))), (ce, .inl (cG, 121, .inl fc))]) (T' := (EW ea wa pf cn dp oc ic lf pt n ++ WW wa wd n)) (X' := [(xo, .inr (8, [.ref gg, .ref tr, .ref ti, .ref s2, .ref s3, .ref n2])), (gg, .inr (1, [.ref gr])), (gr, .inr (2, [.ref ce])), (ce, .inl (cG, 121, .inl fc)), (tr, .inr (5, [.ref sh])), (sh, .inr (4, [.ref ar, .int (nI n)])), (ar, .inl (cS, 40, .inr (.inr (.inr (.inr f))))), (ti, .inr (6, [.ref n1])), (n1, .inr (3, [.ref l1, .int z1])), (l1, .inl (cJ1, 401, .inr (.inl fN))), (s2, .inr (4, [.ref a2, .int (nI m)])), (a2, .inl (cS2, 40, .inr (.inr (.inr (.inr fk))))), (s3, .inr (4, [.ref a3, .int z3])), (a3, .inl (cS3, 40, .inr (.inr (.inr (.inr fr))))), (n2, .inr (3, [.ref l2, .int z2])), (l2, .inl (cJ2, 56, .inr (.inl fs)))]) [5, 6, 10, 11, 3] hP hD rfl rfl (by simp only [List.map_append, EW_fst, WW_fst]) hk9 hW9 rfl
    have hS := hS9
    have hR := q_ro hR0 hna hS
    rcases hE9 with ⟨rfl, hC9⟩ | ⟨rfl, hC9⟩
    · skip
      refine vx_catch (own := RL) (name := q_IA) (E := q_IA) (ce := ce9) (q := q9) hown [] ⟨0, 6, 7, 14⟩ [⟨0, 6, 12, 17⟩] (by rw [hta]; rfl) (fun z9 h9 => absurd h9 List.not_mem_nil) rfl (by decide) (hts (.classLink RL 14 "java/lang/IllegalArgumentException") (List.mem_of_getElem? (i := 1) rfl)) (va_Nw.use rfl (hXt.2.1 (q_IA, q_IA) (by decide))) hc9 hv9 hcl9 ?_
      refine W.eq (g2 := F0 mi9 7 ls [.ref q9]) rfl ?_
      refine lv_astore (lv' := [(4, .ref q9), (0, .ref xo), (1, .long (lN a)), (3, .int x9)]) hx hb dL_add_7 hl (by decide) rfl (fun ls hl => ?_)
      refine lv_ldc (v := (-99999)) hx hb hown (hts (.constant RL 16 (-99999)) (List.mem_of_getElem? (i := 3) rfl)) dL_add_9 ?_
      refine W.widen (k := 3) (n := 20) (Nat.le_of_ble_eq_true rfl) (Nat.le_of_ble_eq_true rfl) ?_
      exact W.iret (v := (-99999)) hx hb hr (fun t9 ht hW => ⟨⟨(-99999), (n, f, m, fk, ki, fc, ea, wa, pf, cn, dp, oc, ic, lf, pt, wd), rfl, (Or.inl ⟨rfl, Or.inl hC9, rfl, rfl, rfl, rfl, rfl, rfl, rfl, rfl, rfl, rfl, rfl, rfl⟩), by show va_P D vwCl _ t9.heap; rw [ht]; exact hP, hD⟩, hS.F ht⟩) hS.2.2 dL_add_11
    · skip
      refine vx_catch (own := RL) (name := q_IS) (E := q_IS) (ce := ce9) (q := q9) hown [⟨0, 6, 7, 14⟩] ⟨0, 6, 12, 17⟩ [] (by rw [hta]; rfl) (fun z9 h9 => by cases List.mem_singleton.mp h9; exact Or.inr ⟨by decide, q_IA, (hts (.classLink RL 14 "java/lang/IllegalArgumentException") (List.mem_of_getElem? (i := 1) rfl)), hXt.2.2.2.2.1⟩) rfl (by decide) (hts (.classLink RL 17 "java/lang/IllegalStateException") (List.mem_of_getElem? (i := 2) rfl)) (va_Nw.use rfl (hXt.2.1 (q_IS, q_IS) (by decide))) hc9 hv9 hcl9 ?_
      refine W.eq (g2 := F0 mi9 12 ls [.ref q9]) rfl ?_
      refine lv_astore (lv' := [(4, .ref q9), (0, .ref xo), (1, .long (lN a)), (3, .int x9)]) hx hb dL_add_12 hl (by decide) rfl (fun ls hl => ?_)
      refine lv_ldc (v := (-99999)) hx hb hown (hts (.constant RL 16 (-99999)) (List.mem_of_getElem? (i := 3) rfl)) dL_add_14 ?_
      refine W.widen (k := 3) (n := 20) (Nat.le_of_ble_eq_true rfl) (Nat.le_of_ble_eq_true rfl) ?_
      exact W.iret (v := (-99999)) hx hb hr (fun t9 ht hW => ⟨⟨(-99999), (n, f, m, fk, ki, fc, ea, wa, pf, cn, dp, oc, ic, lf, pt, wd), rfl, (Or.inl ⟨rfl, Or.inr hC9, rfl, rfl, rfl, rfl, rfl, rfl, rfl, rfl, rfl, rfl, rfl, rfl⟩), by show va_P D vwCl _ t9.heap; rw [ht]; exact hP, hD⟩, hS.F ht⟩) hS.2.2 dL_add_16
  skip
  obtain ⟨n8, f8, m8, fk8, ki8, fc8, ea8, wa8, pf8, cn8, dp8, oc8, ic8, lf8, pt8, wd8⟩ := u_5
  dsimp only at hr_1 hB
  obtain ⟨hB1, hB2⟩ := hB
  replace hB1 : va_P D vwCl ([(sh, .inr (4, [.ref ar, .int (nI n8)])), (ar, .inl (cS, 40, .inr (.inr (.inr (.inr f8))))), (s2, .inr (4, [.ref a2, .int (nI m8)])), (a2, .inl (cS2, 40, .inr (.inr (.inr (.inr fk8))))), (ce, .inl (cG, 121, .inl fc8))] ++ (EW ea8 wa8 pf8 cn8 dp8 oc8 ic8 lf8 pt8 n8 ++ WW wa8 wd8 n8)) H_2 := by rw [← ht]; exact hB1
  obtain ⟨hP, hD⟩ := q_joinG (X := [(xo, .inr (8, [.ref gg, .ref tr, .ref ti, .ref s2, .ref s3, .ref n2])), (gg, .inr (1, [.ref gr])), (gr, .inr (2, [.ref ce])), (ce, .inl (cG, 121, .inl fc)), (tr, .inr (5, [.ref sh])), (sh, .inr (4, [.ref ar, .int (nI n)])), (ar, .inl (cS, 40, .inr (.inr (.inr (.inr f))))), (ti, .inr (6, [.ref n1])), (n1, .inr (3, [.ref l1, .int z1])), (l1, .inl (cJ1, 401, .inr (.inl fN))), (s2, .inr (4, [.ref a2, .int (nI m)])), (a2, .inl (cS2, 40, .inr (.inr (.inr (.inr fk))))), (s3, .inr (4, [.ref a3, .int z3])), (a3, .inl (cS3, 40, .inr (.inr (.inr (.inr fr))))), (n2, .inr (3, [.ref l2, .int z2])), (l2, .inl (cJ2, 56, .inr (.inl fs)))]) (T := (EW ea wa pf cn dp oc ic lf pt n ++ WW wa wd n)) (cx := [(sh, .inr (4, [.ref ar, .int (nI n)])), (ar, .inl (cS, 40, .inr (.inr (.inr (.inr f))))), (s2, .inr (4, [.ref a2, .int (nI m)])), (a2, .inl (cS2, 40, .inr (.inr (.inr (.inr fk))))), (ce, .inl (cG, 121, .inl fc))]) (cx' := [(sh, .inr (4, [.ref ar, .int (nI n8)])), (ar, .inl (cS, 40, .inr (.inr (.inr (.inr f8))))), (s2, .inr (4, [.ref a2, .int (nI m8)])), (a2, .inl (cS2, 40, .inr (.inr (.inr (.inr fk8))))), (ce, .inl (cG, 121, .inl fc8))]) (T' := (EW ea8 wa8 pf8 cn8 dp8 oc8 ic8 lf8 pt8 n8 ++ WW wa8 wd8 n8)) (X' := [(xo, .inr (8, [.ref gg, .ref tr, .ref ti, .ref s2, .ref s3, .ref n2])), (gg, .inr (1, [.ref gr])), (gr, .inr (2, [.ref ce])), (ce, .inl (cG, 121, .inl fc8)), (tr, .inr (5, [.ref sh])), (sh, .inr (4, [.ref ar, .int (nI n8)])), (ar, .inl (cS, 40, .inr (.inr (.inr (.inr f8))))), (ti, .inr (6, [.ref n1])), (n1, .inr (3, [.ref l1, .int z1])), (l1, .inl (cJ1, 401, .inr (.inl fN))), (s2, .inr (4, [.ref a2, .int (nI m8)])), (a2, .inl (cS2, 40, .inr (.inr (.inr (.inr fk8))))), (s3, .inr (4, [.ref a3, .int z3])), (a3, .inl (cS3, 40, .inr (.inr (.inr (.inr fr))))), (n2, .inr (3, [.ref l2, .int z2])), (l2, .inl (cJ2, 56, .inr (.inl fs)))]) [5, 6, 10, 11, 3] hP hD rfl rfl hk1 hF hB1 hB2 rfl
  have hR := q_ro hR0 hna hS
  obtain ⟨hF80, hF81⟩ := hr_1
  refine W.widen (k := 3) (n := 20) (Nat.le_of_ble_eq_true rfl) (Nat.le_of_ble_eq_true rfl) ?_
  exact W.iret (v := r_1) hx hb hr (fun t9 ht hW => ⟨⟨r_1, (n8, f8, m8, fk8, ki8, fc8, ea8, wa8, pf8, cn8, dp8, oc8, ic8, lf8, pt8, wd8), rfl, (Or.inr ⟨hF80, hF81⟩), by show va_P D vwCl _ t9.heap; rw [ht]; exact hP, hD⟩, hS.F ht⟩) hS.2.2 dL_add_6
