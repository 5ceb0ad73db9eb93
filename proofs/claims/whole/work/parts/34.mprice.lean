set_option maxRecDepth 20000 in
theorem iX10_priceUpTo_X10 : ∀ w ∈ wsX100, w ∈ wsX10_priceUpTo := by decide +kernel
set_option maxHeartbeats 4000000 in
set_option maxRecDepth 100000 in
/-- priceUpTo -/
theorem c_X10_priceUpTo (l : Launch) (D : va_G) (mo : Nat) (mw : Nat) (mct : Nat) (mp : Nat) (mnm : Nat) (m1 : Nat) (m2 : Nat) (mt : Nat) (mk : Nat) (mr : Nat) (ml : Nat) (mq : Nat) (k5 : ClassId) (k6 : ClassId) (k7 : ClassId) (k8 : ClassId) (th : Int32) (n : Nat) (om : Int32) (tm : Int32) (f1 : Nat → Int32) (f2 : Nat → Int32) (ft : Nat → Int32) (a : Nat) (b : Nat) (i : Nat) (j : Nat) (hga : gw a) (hgb : gw b) (hone : ∀ k, k < wl a → f1 (k + 1) = nI (ltz a k)) (hoth : ∀ k, k < wl b → f2 (k + 1) = nI (ltz b k)) (hi : i ≤ wl a) (hj : j ≤ wl b) (hL : ∀ i9 j9, j9 ≤ wl b → i9 < i ∨ (i9 = i ∧ j9 < j) → ft (11 * i9 + j9) = nI (pr (ltz a) (ltz b) i9 j9)) : Met l yX10_priceUpTo wsX10_priceUpTo { frames := 1, cells := 0, slots := 0, locals := 27 } (va_Pc [.ref mo, .int (nI i), .int (nI j)] (qP D ([(mo, .inr (9, [.int th, .int (nI n), .ref mw, .ref mct, .ref mp, .ref mnm, .ref m1, .ref m2, .int om, .int tm, .ref mt, .ref mk, .ref mr, .ref ml, .ref mq])), (m1, .inl (k5, 11, .inl f1)), (m2, .inl (k6, 11, .inl f2)), (mt, .inl (k7, 121, .inl ft)), (mk, .inl (k8, 27, .inl (fun k9 => nI (kyf k9))))]) [(k5, .int), (k6, .int), (k7, .int), (k8, .int)])) (vp_Si (fun rv : Int32 => rv = nI (pr (ltz a) (ltz b) i j))) 0 0 (fun _ => False) := by
  refine Met.ofW (cc := cX10_priceUpTo) (maxL := 5) (ret := (some .int)) (by decide) rfl ?_
  intro pM eM s mi9 argsM belowM methM cM sM B hml hv
  obtain ⟨rfl, hR, hK, hNw⟩ := hv
  have hx := B.exec
  have hb := B.bytes
  have hr := B.returns
  have hts := atoms_spec (ws := wsX10_priceUpTo) B.pre
  have hown : s.vm.findClass RX10 = some mi9.cls := findClass_of_methodNamed B.named
  have hlocks := B.notSynchronized
  have hS : va_S (fun _ => False) s.heap s.heap [] := va_S.rf
  have hR : va_P D vwCl ([(mo, .inr (9, [.int th, .int (nI n), .ref mw, .ref mct, .ref mp, .ref mnm, .ref m1, .ref m2, .int om, .int tm, .ref mt, .ref mk, .ref mr, .ref ml, .ref mq])), (m1, .inl (k5, 11, .inl f1)), (m2, .inl (k6, 11, .inl f2)), (mt, .inl (k7, 121, .inl ft)), (mk, .inl (k8, 27, .inl (fun k9 => nI (kyf k9))))]) s.heap := hR
  have hl := lv_entry ([.ref mo, .int (nI i), .int (nI j)]) (n := 5) (Nat.le_of_ble_eq_true rfl)
  rw [lg_entry_eq]
  generalize (lg_sl ([.ref mo, .int (nI i), .int (nI j)]) ++ List.replicate (5 - (lg_sl ([.ref mo, .int (nI i), .int (nI j)])).length) Slot.unset).toArray = ls at hl ⊢
  have hl : lv_has ls 5 [(0, .ref mo), (1, .int (nI i)), (2, .int (nI j))] := hl
  have hwa := gw_wl hga
  have hwb := gw_wl hgb
  refine lv_sipush (v := nI 1000) hx hb dX10_priceUpTo_0 (by decide) ?_
  refine lv_istore_n (lv' := [(3, .int (nI 1000)), (0, .ref mo), (1, .int (nI i)), (2, .int (nI j))]) hx hb dX10_priceUpTo_3 rfl hl (by decide) rfl (fun ls hl => ?_)
  refine q_cut 14 (fun (x : Unit) (Hc : Heap) (Lc : List Loc) (ls : Array Slot) (st : List Value) => match x with | () => (0 < i ∨ 0 < j) ∧ s.heap = Hc ∧ [] = Lc ∧ lv_has ls 5 [(3, .int (nI 1000)), (0, .ref mo), (1, .int (nI i)), (2, .int (nI j))] ∧ [] = st) ?_ ?_
  · clear hl
    rintro ⟨⟩ Hc Lc ls st hI
    obtain ⟨h0, rfl, rfl, hl, rfl⟩ := hI
    refine q_cut 34 (fun (x : (Nat)) (Hc : Heap) (Lc : List Loc) (ls : Array Slot) (st : List Value) => match x with | z1 => ((0 < j → z1 = pr (ltz a) (ltz b) i (j - 1) + 2) ∧ (j = 0 → z1 = 1000)) ∧ s.heap = Hc ∧ [] = Lc ∧ lv_has ls 5 [(3, .int (nI z1)), (0, .ref mo), (1, .int (nI i)), (2, .int (nI j))] ∧ [] = st) ?_ ?_
    · clear hl
      rintro z1 Hc Lc ls st hI
      obtain ⟨hz1, rfl, rfl, hl, rfl⟩ := hI
      refine q_cut 96 (fun (x : (Nat)) (Hc : Heap) (Lc : List Loc) (ls : Array Slot) (st : List Value) => match x with | z2 => ((0 < i → z2 = min z1 (pr (ltz a) (ltz b) (i - 1) j + delp (ltz a) (i - 1))) ∧ (i = 0 → z2 = z1)) ∧ s.heap = Hc ∧ [] = Lc ∧ lv_has ls 5 [(3, .int (nI z2)), (0, .ref mo), (1, .int (nI i)), (2, .int (nI j))] ∧ [] = st) ?_ ?_
      · clear hl
        rintro z2 Hc Lc ls st hI
        obtain ⟨hz2, rfl, rfl, hl, rfl⟩ := hI
        refine q_cut 172 (fun (x : (Nat)) (Hc : Heap) (Lc : List Loc) (ls : Array Slot) (st : List Value) => match x with | z3 => ((0 < i ∧ 0 < j → z3 = min z2 (pr (ltz a) (ltz b) (i - 1) (j - 1) + repp (ltz a (i - 1)) (ltz b (j - 1)))) ∧ (i = 0 ∨ j = 0 → z3 = z2)) ∧ s.heap = Hc ∧ [] = Lc ∧ lv_has ls 5 [(3, .int (nI z3)), (0, .ref mo), (1, .int (nI i)), (2, .int (nI j))] ∧ [] = st) ?_ ?_
        · clear hl
          rintro z3 Hc Lc ls st hI
          obtain ⟨hz3, rfl, rfl, hl, rfl⟩ := hI
          have hno : ¬ exch (ltz a) (ltz b) (i - 1) (j - 1) → z3 = pr (ltz a) (ltz b) i j := fun hx9 => pz_no (by omega) h0 hz1 hz2 hz3 hx9
          have hlow : i ≤ 1 → z3 = pr (ltz a) (ltz b) i j := fun h9 => hno (fun h8 => by have := h8.1; omega)
          have hlow2 : j ≤ 1 → z3 = pr (ltz a) (ltz b) i j := fun h9 => hno (fun h8 => by have := h8.2.1; omega)
          have hyes : exch (ltz a) (ltz b) (i - 1) (j - 1) → min z3 (pr (ltz a) (ltz b) (i - 2) (j - 2) + 1) = pr (ltz a) (ltz b) i j := fun hx9 => pz_yes hz1 hz2 hz3 hx9
          have hb3 : z3 ≤ 1000 := pz_b3 (pz_b2 (pz_b1 (by omega) (by omega) hz1) hz2) hz3
          refine q_cut 255 (fun (x : (Nat)) (Hc : Heap) (Lc : List Loc) (ls : Array Slot) (st : List Value) => match x with | z4 => (z4 = pr (ltz a) (ltz b) i j) ∧ s.heap = Hc ∧ [] = Lc ∧ lv_has ls 5 [(3, .int (nI z4)), (0, .ref mo), (1, .int (nI i)), (2, .int (nI j))] ∧ [] = st) ?_ ?_
          · clear hl
            rintro z4 Hc Lc ls st hI
            obtain ⟨hz4, rfl, rfl, hl, rfl⟩ := hI
            refine lv_iload_n hx hb dX10_priceUpTo_255 rfl (lv_at hl 0 rfl) ?_
            exact W.iret (v := nI z4) hx hb hr (fun t9 ht _ => ⟨nI z4, rfl, (by rw [hz4]), ht⟩) (fun _ h => absurd h List.not_mem_nil) dX10_priceUpTo_256
          · intro hcut_255
            have hno : ¬ exch (ltz a) (ltz b) (i - 1) (j - 1) → z3 = pr (ltz a) (ltz b) i j := fun hx9 => pz_no (by omega) h0 hz1 hz2 hz3 hx9
            have hlow : i ≤ 1 → z3 = pr (ltz a) (ltz b) i j := fun h9 => hno (fun h8 => by have := h8.1; omega)
            have hlow2 : j ≤ 1 → z3 = pr (ltz a) (ltz b) i j := fun h9 => hno (fun h8 => by have := h8.2.1; omega)
            have hyes : exch (ltz a) (ltz b) (i - 1) (j - 1) → min z3 (pr (ltz a) (ltz b) (i - 2) (j - 2) + 1) = pr (ltz a) (ltz b) i j := fun hx9 => pz_yes hz1 hz2 hz3 hx9
            have hb3 : z3 ≤ 1000 := pz_b3 (pz_b2 (pz_b1 (by omega) (by omega) hz1) hz2) hz3
            refine lv_iload_n hx hb dX10_priceUpTo_172 rfl (lv_at hl 2 rfl) ?_
            refine lv_iconst (v := nI 1) hx hb dX10_priceUpTo_173 (by decide) ?_
            refine q_icmp_le (a := i) (b := 1) (tgt := 255) hx hb dX10_priceUpTo_174 (by decide) (by omega) (by omega) (fun c_174 => ?_) (fun c_174 => ?_)
            · skip
              exact hcut_255 z3 _ _ _ _ ⟨(hlow c_174), rfl, rfl, (lv_sub hl [0, 1, 2, 3] rfl), rfl⟩
            · skip
              refine lv_iload_n hx hb dX10_priceUpTo_177 rfl (lv_at hl 3 rfl) ?_
              refine lv_iconst (v := nI 1) hx hb dX10_priceUpTo_178 (by decide) ?_
              refine q_icmp_le (a := j) (b := 1) (tgt := 255) hx hb dX10_priceUpTo_179 (by decide) (by omega) (by omega) (fun c_179 => ?_) (fun c_179 => ?_)
              · skip
                exact hcut_255 z3 _ _ _ _ ⟨(hlow2 c_179), rfl, rfl, (lv_sub hl [0, 1, 2, 3] rfl), rfl⟩
              · skip
                refine lv_aload_n hx hb dX10_priceUpTo_182 rfl (lv_at hl 1 rfl) ?_
                refine va_get (D := D) (own := RX10) (ref := "FuzzyFensModel") (ci := 9) (v := .ref m1) (C := RX10) (T := TX10) (N := 15) hx hb hts iX10_priceUpTo_X10 hown hK hR 0 rfl rfl 6 (by decide) (hts (.fieldLink RX10 23 "FuzzyFensModel" "one" "[I") (List.mem_of_getElem? (i := 2) rfl)) (fun _ h9 => h9) rfl dX10_priceUpTo_183 ?_
                refine lv_iload_n hx hb dX10_priceUpTo_186 rfl (lv_at hl 2 rfl) ?_
                refine va_iald (D := D) hx hb hK hR 1 0 rfl rfl (vp_in_nI (n := i) (N := 11) (by omega) (by decide)) dX10_priceUpTo_187 ?_
                rw [nI_clamp (n := i) (by omega)]
                refine q_cvi (show (f1 i) = (nI (ltz a (i - 1))) from (by have e7 := hone (i - 1) (by omega); rw [show i - 1 + 1 = i by omega] at e7; exact e7)) ?_
                refine lv_aload_n hx hb dX10_priceUpTo_188 rfl (lv_at hl 1 rfl) ?_
                refine va_get (D := D) (own := RX10) (ref := "FuzzyFensModel") (ci := 9) (v := .ref m1) (C := RX10) (T := TX10) (N := 15) hx hb hts iX10_priceUpTo_X10 hown hK hR 0 rfl rfl 6 (by decide) (hts (.fieldLink RX10 23 "FuzzyFensModel" "one" "[I") (List.mem_of_getElem? (i := 2) rfl)) (fun _ h9 => h9) rfl dX10_priceUpTo_189 ?_
                refine lv_iload_n hx hb dX10_priceUpTo_192 rfl (lv_at hl 2 rfl) ?_
                refine lv_iconst (v := nI 1) hx hb dX10_priceUpTo_193 (by decide) ?_
                refine q_isub (d := i - 1) hx hb dX10_priceUpTo_194 (by omega) ?_
                refine va_iald (D := D) hx hb hK hR 1 0 rfl rfl (vp_in_nI (n := i - 1) (N := 11) (by omega) (by decide)) dX10_priceUpTo_195 ?_
                rw [nI_clamp (n := i - 1) (by omega)]
                refine q_cvi (show (f1 (i - 1)) = (nI (ltz a (i - 2))) from (by have e7 := hone (i - 2) (by omega); rw [show i - 2 + 1 = i - 1 by omega] at e7; exact e7)) ?_
                refine q_icmp_eq (a := ltz a (i - 1)) (b := ltz a (i - 2)) (tgt := 255) hx hb dX10_priceUpTo_196 (by decide) (by have := ltz_32 a (i - 1); omega) (by have := ltz_32 a (i - 2); omega) (fun c_196 => ?_) (fun c_196 => ?_)
                · skip
                  exact hcut_255 z3 _ _ _ _ ⟨(hno (fun h9 => h9.2.2.1 (by rw [show i - 1 - 1 = i - 2 by omega]; exact c_196.symm))), rfl, rfl, (lv_sub hl [0, 1, 2, 3] rfl), rfl⟩
                · skip
                  refine lv_aload_n hx hb dX10_priceUpTo_199 rfl (lv_at hl 1 rfl) ?_
                  refine va_get (D := D) (own := RX10) (ref := "FuzzyFensModel") (ci := 9) (v := .ref m1) (C := RX10) (T := TX10) (N := 15) hx hb hts iX10_priceUpTo_X10 hown hK hR 0 rfl rfl 6 (by decide) (hts (.fieldLink RX10 23 "FuzzyFensModel" "one" "[I") (List.mem_of_getElem? (i := 2) rfl)) (fun _ h9 => h9) rfl dX10_priceUpTo_200 ?_
                  refine lv_iload_n hx hb dX10_priceUpTo_203 rfl (lv_at hl 2 rfl) ?_
                  refine va_iald (D := D) hx hb hK hR 1 0 rfl rfl (vp_in_nI (n := i) (N := 11) (by omega) (by decide)) dX10_priceUpTo_204 ?_
                  rw [nI_clamp (n := i) (by omega)]
                  refine q_cvi (show (f1 i) = (nI (ltz a (i - 1))) from (by have e7 := hone (i - 1) (by omega); rw [show i - 1 + 1 = i by omega] at e7; exact e7)) ?_
                  refine lv_aload_n hx hb dX10_priceUpTo_205 rfl (lv_at hl 1 rfl) ?_
                  refine va_get (D := D) (own := RX10) (ref := "FuzzyFensModel") (ci := 9) (v := .ref m2) (C := RX10) (T := TX10) (N := 15) hx hb hts iX10_priceUpTo_X10 hown hK hR 0 rfl rfl 7 (by decide) (hts (.fieldLink RX10 26 "FuzzyFensModel" "other" "[I") (List.mem_of_getElem? (i := 3) rfl)) (fun _ h9 => h9) rfl dX10_priceUpTo_206 ?_
                  refine lv_iload_n hx hb dX10_priceUpTo_209 rfl (lv_at hl 3 rfl) ?_
                  refine lv_iconst (v := nI 1) hx hb dX10_priceUpTo_210 (by decide) ?_
                  refine q_isub (d := j - 1) hx hb dX10_priceUpTo_211 (by omega) ?_
                  refine va_iald (D := D) hx hb hK hR 2 1 rfl rfl (vp_in_nI (n := j - 1) (N := 11) (by omega) (by decide)) dX10_priceUpTo_212 ?_
                  rw [nI_clamp (n := j - 1) (by omega)]
                  refine q_cvi (show (f2 (j - 1)) = (nI (ltz b (j - 2))) from (by have e7 := hoth (j - 2) (by omega); rw [show j - 2 + 1 = j - 1 by omega] at e7; exact e7)) ?_
                  refine q_icmp_ne (a := ltz a (i - 1)) (b := ltz b (j - 2)) (tgt := 255) hx hb dX10_priceUpTo_213 (by decide) (by have := ltz_32 a (i - 1); omega) (by have := ltz_32 b (j - 2); omega) (fun c_213 => ?_) (fun c_213 => ?_)
                  · skip
                    exact hcut_255 z3 _ _ _ _ ⟨(hno (fun h9 => c_213 (by have := h9.2.2.2.2; rw [show j - 1 - 1 = j - 2 by omega] at this; exact this))), rfl, rfl, (lv_sub hl [0, 1, 2, 3] rfl), rfl⟩
                  · skip
                    refine lv_aload_n hx hb dX10_priceUpTo_216 rfl (lv_at hl 1 rfl) ?_
                    refine va_get (D := D) (own := RX10) (ref := "FuzzyFensModel") (ci := 9) (v := .ref m1) (C := RX10) (T := TX10) (N := 15) hx hb hts iX10_priceUpTo_X10 hown hK hR 0 rfl rfl 6 (by decide) (hts (.fieldLink RX10 23 "FuzzyFensModel" "one" "[I") (List.mem_of_getElem? (i := 2) rfl)) (fun _ h9 => h9) rfl dX10_priceUpTo_217 ?_
                    refine lv_iload_n hx hb dX10_priceUpTo_220 rfl (lv_at hl 2 rfl) ?_
                    refine lv_iconst (v := nI 1) hx hb dX10_priceUpTo_221 (by decide) ?_
                    refine q_isub (d := i - 1) hx hb dX10_priceUpTo_222 (by omega) ?_
                    refine va_iald (D := D) hx hb hK hR 1 0 rfl rfl (vp_in_nI (n := i - 1) (N := 11) (by omega) (by decide)) dX10_priceUpTo_223 ?_
                    rw [nI_clamp (n := i - 1) (by omega)]
                    refine q_cvi (show (f1 (i - 1)) = (nI (ltz a (i - 2))) from (by have e7 := hone (i - 2) (by omega); rw [show i - 2 + 1 = i - 1 by omega] at e7; exact e7)) ?_
                    refine lv_aload_n hx hb dX10_priceUpTo_224 rfl (lv_at hl 1 rfl) ?_
                    refine va_get (D := D) (own := RX10) (ref := "FuzzyFensModel") (ci := 9) (v := .ref m2) (C := RX10) (T := TX10) (N := 15) hx hb hts iX10_priceUpTo_X10 hown hK hR 0 rfl rfl 7 (by decide) (hts (.fieldLink RX10 26 "FuzzyFensModel" "other" "[I") (List.mem_of_getElem? (i := 3) rfl)) (fun _ h9 => h9) rfl dX10_priceUpTo_225 ?_
                    refine lv_iload_n hx hb dX10_priceUpTo_228 rfl (lv_at hl 3 rfl) ?_
                    refine va_iald (D := D) hx hb hK hR 2 1 rfl rfl (vp_in_nI (n := j) (N := 11) (by omega) (by decide)) dX10_priceUpTo_229 ?_
                    rw [nI_clamp (n := j) (by omega)]
                    refine q_cvi (show (f2 j) = (nI (ltz b (j - 1))) from (by have e7 := hoth (j - 1) (by omega); rw [show j - 1 + 1 = j by omega] at e7; exact e7)) ?_
                    refine q_icmp_ne (a := ltz a (i - 2)) (b := ltz b (j - 1)) (tgt := 255) hx hb dX10_priceUpTo_230 (by decide) (by have := ltz_32 a (i - 2); omega) (by have := ltz_32 b (j - 1); omega) (fun c_230 => ?_) (fun c_230 => ?_)
                    · skip
                      exact hcut_255 z3 _ _ _ _ ⟨(hno (fun h9 => c_230 (by have := h9.2.2.2.1; rw [show i - 1 - 1 = i - 2 by omega] at this; exact this))), rfl, rfl, (lv_sub hl [0, 1, 2, 3] rfl), rfl⟩
                    · skip
                      refine lv_iload_n hx hb dX10_priceUpTo_233 rfl (lv_at hl 0 rfl) ?_
                      refine lv_aload_n hx hb dX10_priceUpTo_234 rfl (lv_at hl 1 rfl) ?_
                      refine va_get (D := D) (own := RX10) (ref := "FuzzyFensModel") (ci := 9) (v := .ref mt) (C := RX10) (T := TX10) (N := 15) hx hb hts iX10_priceUpTo_X10 hown hK hR 0 rfl rfl 10 (by decide) (hts (.fieldLink RX10 29 "FuzzyFensModel" "table" "[I") (List.mem_of_getElem? (i := 1) rfl)) (fun _ h9 => h9) rfl dX10_priceUpTo_235 ?_
                      refine lv_bipush (v := nI 11) hx hb dX10_priceUpTo_238 (by decide) ?_
                      refine lv_iload_n hx hb dX10_priceUpTo_240 rfl (lv_at hl 2 rfl) ?_
                      refine lv_iconst (v := nI 2) hx hb dX10_priceUpTo_241 (by decide) ?_
                      refine q_isub (d := i - 2) hx hb dX10_priceUpTo_242 (by omega) ?_
                      refine q_imul (d := 11 * i - 22) hx hb dX10_priceUpTo_243 (by omega) ?_
                      refine lv_iload_n hx hb dX10_priceUpTo_244 rfl (lv_at hl 3 rfl) ?_
                      refine q_iadd (d := 11 * i + j - 22) hx hb dX10_priceUpTo_245 (by omega) ?_
                      refine lv_iconst (v := nI 2) hx hb dX10_priceUpTo_246 (by decide) ?_
                      refine q_isub (d := 11 * i + j - 24) hx hb dX10_priceUpTo_247 (by omega) ?_
                      refine va_iald (D := D) hx hb hK hR 3 2 rfl rfl (vp_in_nI (n := 11 * i + j - 24) (N := 121) (by omega) (by decide)) dX10_priceUpTo_248 ?_
                      rw [nI_clamp (n := 11 * i + j - 24) (by omega)]
                      refine q_cvi (show (ft (11 * i + j - 24)) = (nI (pr (ltz a) (ltz b) (i - 2) (j - 2))) from (by rw [show 11 * i + j - 24 = 11 * (i - 2) + (j - 2) by omega]; exact hL _ _ (by omega) (by omega))) ?_
                      refine lv_iconst (v := nI 1) hx hb dX10_priceUpTo_249 (by decide) ?_
                      refine q_iadd (d := pr (ltz a) (ltz b) (i - 2) (j - 2) + 1) hx hb dX10_priceUpTo_250 (by omega) ?_
                      refine vp_callSi (W.runS (As := [.int (nI z3), .int (nI (pr (ltz a) (ltz b) (i - 2) (j - 2) + 1))]) (rest := []) ⟨hx, hb, hml, hown, hts⟩ (c_X10_lesser (l := l) (D := D) (a := z3) (b := pr (ltz a) (ltz b) (i - 2) (j - 2) + 1) (ha := (by omega)) (hb9 := (by have := pr_bd (a := ltz a) (b := ltz b) (i := i - 2) (j := j - 2) (by omega) (by omega); omega))) (va_cwS 2 hts gX10_priceUpTo_X10_lesser rfl rfl rfl (by decide +kernel) ⟨Nat.le_of_ble_eq_true rfl, Nat.le_of_ble_eq_true rfl⟩) ⟨qP_blind, (qP_of (q_Pof (fun _ h => absurd h List.not_mem_nil)) (hK.sub (tys' := []) [] rfl) hNw)⟩ rfl rfl hl.1 rfl (lv_room (Nat.le_of_ble_eq_true rfl)) dX10_priceUpTo_251 ⟨Nat.le_of_ble_eq_true rfl, Nat.le_of_ble_eq_true rfl⟩) (fun r_1 hr_1 => ?_)
                      subst hr_1
                      refine lv_istore_n (lv' := [(3, .int (nI (min z3 (pr (ltz a) (ltz b) (i - 2) (j - 2) + 1)))), (0, .ref mo), (1, .int (nI i)), (2, .int (nI j))]) hx hb dX10_priceUpTo_254 rfl hl (by decide) rfl (fun ls hl => ?_)
                      exact hcut_255 (min z3 (pr (ltz a) (ltz b) (i - 2) (j - 2) + 1)) _ _ _ _ ⟨(hyes ⟨by omega, by omega, by rw [show i - 1 - 1 = i - 2 by omega]; exact fun h9 => c_196 h9.symm, by rw [show i - 1 - 1 = i - 2 by omega]; exact c_230, by rw [show j - 1 - 1 = j - 2 by omega]; exact c_213⟩), rfl, rfl, (lv_sub hl [0, 1, 2, 3] rfl), rfl⟩
        · intro hcut_172
          refine lv_iload_n hx hb dX10_priceUpTo_96 rfl (lv_at hl 2 rfl) ?_
          refine q_if_le (a := i) (tgt := 172) hx hb dX10_priceUpTo_97 (by decide) (by omega) (fun c_97 => ?_) (fun c_97 => ?_)
          · skip
            exact hcut_172 z2 _ _ _ _ ⟨(by omega), rfl, rfl, (lv_sub hl [0, 1, 2, 3] rfl), rfl⟩
          · skip
            refine lv_iload_n hx hb dX10_priceUpTo_100 rfl (lv_at hl 3 rfl) ?_
            refine q_if_le (a := j) (tgt := 172) hx hb dX10_priceUpTo_101 (by decide) (by omega) (fun c_101 => ?_) (fun c_101 => ?_)
            · skip
              exact hcut_172 z2 _ _ _ _ ⟨(by omega), rfl, rfl, (lv_sub hl [0, 1, 2, 3] rfl), rfl⟩
            · skip
              refine q_cut 147 (fun (x : (Nat)) (Hc : Heap) (Lc : List Loc) (ls : Array Slot) (st : List Value) => match x with | rp => (rp = repp (ltz a (i - 1)) (ltz b (j - 1))) ∧ s.heap = Hc ∧ [] = Lc ∧ lv_has ls 5 [(3, .int (nI z2)), (0, .ref mo), (1, .int (nI i)), (2, .int (nI j))] ∧ [.int (nI rp)] = st) ?_ ?_
              · clear hl
                rintro rp Hc Lc ls st hI
                obtain ⟨hrp, rfl, rfl, hl, rfl⟩ := hI
                refine lv_istore (lv' := [(4, .int (nI rp)), (3, .int (nI z2)), (0, .ref mo), (1, .int (nI i)), (2, .int (nI j))]) hx hb dX10_priceUpTo_147 hl (by decide) rfl (fun ls hl => ?_)
                refine lv_iload_n hx hb dX10_priceUpTo_149 rfl (lv_at hl 1 rfl) ?_
                refine lv_aload_n hx hb dX10_priceUpTo_150 rfl (lv_at hl 2 rfl) ?_
                refine va_get (D := D) (own := RX10) (ref := "FuzzyFensModel") (ci := 9) (v := .ref mt) (C := RX10) (T := TX10) (N := 15) hx hb hts iX10_priceUpTo_X10 hown hK hR 0 rfl rfl 10 (by decide) (hts (.fieldLink RX10 29 "FuzzyFensModel" "table" "[I") (List.mem_of_getElem? (i := 1) rfl)) (fun _ h9 => h9) rfl dX10_priceUpTo_151 ?_
                refine lv_bipush (v := nI 11) hx hb dX10_priceUpTo_154 (by decide) ?_
                refine lv_iload_n hx hb dX10_priceUpTo_156 rfl (lv_at hl 3 rfl) ?_
                refine lv_iconst (v := nI 1) hx hb dX10_priceUpTo_157 (by decide) ?_
                refine q_isub (d := i - 1) hx hb dX10_priceUpTo_158 (by omega) ?_
                refine q_imul (d := 11 * i - 11) hx hb dX10_priceUpTo_159 (by omega) ?_
                refine lv_iload_n hx hb dX10_priceUpTo_160 rfl (lv_at hl 4 rfl) ?_
                refine q_iadd (d := 11 * i + j - 11) hx hb dX10_priceUpTo_161 (by omega) ?_
                refine lv_iconst (v := nI 1) hx hb dX10_priceUpTo_162 (by decide) ?_
                refine q_isub (d := 11 * i + j - 12) hx hb dX10_priceUpTo_163 (by omega) ?_
                refine va_iald (D := D) hx hb hK hR 3 2 rfl rfl (vp_in_nI (n := 11 * i + j - 12) (N := 121) (by omega) (by decide)) dX10_priceUpTo_164 ?_
                rw [nI_clamp (n := 11 * i + j - 12) (by omega)]
                refine q_cvi (show (ft (11 * i + j - 12)) = (nI (pr (ltz a) (ltz b) (i - 1) (j - 1))) from (by rw [show 11 * i + j - 12 = 11 * (i - 1) + (j - 1) by omega]; exact hL _ _ (by omega) (by omega))) ?_
                refine lv_iload hx hb dX10_priceUpTo_165 (lv_at hl 0 rfl) ?_
                refine q_iadd (d := pr (ltz a) (ltz b) (i - 1) (j - 1) + rp) hx hb dX10_priceUpTo_167 (by omega) ?_
                refine vp_callSi (W.runS (As := [.int (nI z2), .int (nI (pr (ltz a) (ltz b) (i - 1) (j - 1) + rp))]) (rest := []) ⟨hx, hb, hml, hown, hts⟩ (c_X10_lesser (l := l) (D := D) (a := z2) (b := pr (ltz a) (ltz b) (i - 1) (j - 1) + rp) (ha := (by have := pz_b2 (pz_b1 (by omega) (by omega) hz1) hz2; omega)) (hb9 := (by have := pr_bd (a := ltz a) (b := ltz b) (i := i - 1) (j := j - 1) (by omega) (by omega); have := repp_le (ltz a (i - 1)) (ltz b (j - 1)); omega))) (va_cwS 2 hts gX10_priceUpTo_X10_lesser rfl rfl rfl (by decide +kernel) ⟨Nat.le_of_ble_eq_true rfl, Nat.le_of_ble_eq_true rfl⟩) ⟨qP_blind, (qP_of (q_Pof (fun _ h => absurd h List.not_mem_nil)) (hK.sub (tys' := []) [] rfl) hNw)⟩ rfl rfl hl.1 rfl (lv_room (Nat.le_of_ble_eq_true rfl)) dX10_priceUpTo_168 ⟨Nat.le_of_ble_eq_true rfl, Nat.le_of_ble_eq_true rfl⟩) (fun r_2 hr_2 => ?_)
                subst hr_2
                refine lv_istore_n (lv' := [(3, .int (nI (min z2 (pr (ltz a) (ltz b) (i - 1) (j - 1) + rp)))), (4, .int (nI rp)), (0, .ref mo), (1, .int (nI i)), (2, .int (nI j))]) hx hb dX10_priceUpTo_171 rfl hl (by decide) rfl (fun ls hl => ?_)
                exact hcut_172 (min z2 (pr (ltz a) (ltz b) (i - 1) (j - 1) + rp)) _ _ _ _ ⟨(by omega), rfl, rfl, (lv_sub hl [0, 2, 3, 4] rfl), rfl⟩
              · intro hcut_147
                refine lv_aload_n hx hb dX10_priceUpTo_104 rfl (lv_at hl 1 rfl) ?_
                refine va_get (D := D) (own := RX10) (ref := "FuzzyFensModel") (ci := 9) (v := .ref m1) (C := RX10) (T := TX10) (N := 15) hx hb hts iX10_priceUpTo_X10 hown hK hR 0 rfl rfl 6 (by decide) (hts (.fieldLink RX10 23 "FuzzyFensModel" "one" "[I") (List.mem_of_getElem? (i := 2) rfl)) (fun _ h9 => h9) rfl dX10_priceUpTo_105 ?_
                refine lv_iload_n hx hb dX10_priceUpTo_108 rfl (lv_at hl 2 rfl) ?_
                refine va_iald (D := D) hx hb hK hR 1 0 rfl rfl (vp_in_nI (n := i) (N := 11) (by omega) (by decide)) dX10_priceUpTo_109 ?_
                rw [nI_clamp (n := i) (by omega)]
                refine q_cvi (show (f1 i) = (nI (ltz a (i - 1))) from (by have e7 := hone (i - 1) (by omega); rw [show i - 1 + 1 = i by omega] at e7; exact e7)) ?_
                refine lv_aload_n hx hb dX10_priceUpTo_110 rfl (lv_at hl 1 rfl) ?_
                refine va_get (D := D) (own := RX10) (ref := "FuzzyFensModel") (ci := 9) (v := .ref m2) (C := RX10) (T := TX10) (N := 15) hx hb hts iX10_priceUpTo_X10 hown hK hR 0 rfl rfl 7 (by decide) (hts (.fieldLink RX10 26 "FuzzyFensModel" "other" "[I") (List.mem_of_getElem? (i := 3) rfl)) (fun _ h9 => h9) rfl dX10_priceUpTo_111 ?_
                refine lv_iload_n hx hb dX10_priceUpTo_114 rfl (lv_at hl 3 rfl) ?_
                refine va_iald (D := D) hx hb hK hR 2 1 rfl rfl (vp_in_nI (n := j) (N := 11) (by omega) (by decide)) dX10_priceUpTo_115 ?_
                rw [nI_clamp (n := j) (by omega)]
                refine q_cvi (show (f2 j) = (nI (ltz b (j - 1))) from (by have e7 := hoth (j - 1) (by omega); rw [show j - 1 + 1 = j by omega] at e7; exact e7)) ?_
                refine q_icmp_ne (a := ltz a (i - 1)) (b := ltz b (j - 1)) (tgt := 123) hx hb dX10_priceUpTo_116 (by decide) (by have := ltz_32 a (i - 1); omega) (by have := ltz_32 b (j - 1); omega) (fun c_116 => ?_) (fun c_116 => ?_)
                · skip
                  refine lv_aload_n hx hb dX10_priceUpTo_123 rfl (lv_at hl 1 rfl) ?_
                  refine lv_aload_n hx hb dX10_priceUpTo_124 rfl (lv_at hl 1 rfl) ?_
                  refine va_get (D := D) (own := RX10) (ref := "FuzzyFensModel") (ci := 9) (v := .ref m1) (C := RX10) (T := TX10) (N := 15) hx hb hts iX10_priceUpTo_X10 hown hK hR 0 rfl rfl 6 (by decide) (hts (.fieldLink RX10 23 "FuzzyFensModel" "one" "[I") (List.mem_of_getElem? (i := 2) rfl)) (fun _ h9 => h9) rfl dX10_priceUpTo_125 ?_
                  refine lv_iload_n hx hb dX10_priceUpTo_128 rfl (lv_at hl 2 rfl) ?_
                  refine va_iald (D := D) hx hb hK hR 1 0 rfl rfl (vp_in_nI (n := i) (N := 11) (by omega) (by decide)) dX10_priceUpTo_129 ?_
                  rw [nI_clamp (n := i) (by omega)]
                  refine q_cvi (show (f1 i) = (nI (ltz a (i - 1))) from (by have e7 := hone (i - 1) (by omega); rw [show i - 1 + 1 = i by omega] at e7; exact e7)) ?_
                  refine lv_aload_n hx hb dX10_priceUpTo_130 rfl (lv_at hl 1 rfl) ?_
                  refine va_get (D := D) (own := RX10) (ref := "FuzzyFensModel") (ci := 9) (v := .ref m2) (C := RX10) (T := TX10) (N := 15) hx hb hts iX10_priceUpTo_X10 hown hK hR 0 rfl rfl 7 (by decide) (hts (.fieldLink RX10 26 "FuzzyFensModel" "other" "[I") (List.mem_of_getElem? (i := 3) rfl)) (fun _ h9 => h9) rfl dX10_priceUpTo_131 ?_
                  refine lv_iload_n hx hb dX10_priceUpTo_134 rfl (lv_at hl 3 rfl) ?_
                  refine va_iald (D := D) hx hb hK hR 2 1 rfl rfl (vp_in_nI (n := j) (N := 11) (by omega) (by decide)) dX10_priceUpTo_135 ?_
                  rw [nI_clamp (n := j) (by omega)]
                  refine q_cvi (show (f2 j) = (nI (ltz b (j - 1))) from (by have e7 := hoth (j - 1) (by omega); rw [show j - 1 + 1 = j by omega] at e7; exact e7)) ?_
                  refine vp_callSi (W.runV (As := [.int (nI (ltz a (i - 1))), .int (nI (ltz b (j - 1)))]) (rest := []) ⟨hx, hb, hml, hown, hts⟩ (c_X10_beside (l := l) (D := D) (mo := mo) (mw := mw) (mct := mct) (mp := mp) (mnm := mnm) (m1 := m1) (m2 := m2) (mt := mt) (mk := mk) (mr := mr) (ml := ml) (mq := mq) (k8 := k8) (th := th) (n := n) (om := om) (tm := tm) (x9 := ltz a (i - 1)) (y9 := ltz b (j - 1)) (hx1 := (by rw [ltz_in (by omega)]; exact (lt_in hga (by omega)).1)) (hx2 := (by rw [ltz_in (by omega)]; exact (lt_in hga (by omega)).2)) (hy1 := (by rw [ltz_in (by omega)]; exact (lt_in hgb (by omega)).1)) (hy2 := (by rw [ltz_in (by omega)]; exact (lt_in hgb (by omega)).2))) (cwV 2 hts gX10_priceUpTo_X10_beside rfl rfl rfl (by decide +kernel) ⟨Nat.le_of_ble_eq_true rfl, Nat.le_of_ble_eq_true rfl⟩) ⟨qP_blind, (va_recv hK hR (ci := 9) (q0 := 0) rfl rfl), (qP_of (hR.sub (ws' := [(mo, .inr (9, [.int th, .int (nI n), .ref mw, .ref mct, .ref mp, .ref mnm, .ref m1, .ref m2, .int om, .int tm, .ref mt, .ref mk, .ref mr, .ref ml, .ref mq])), (mk, .inl (k8, 27, .inl (fun k9 => nI (kyf k9))))]) [0, 4] rfl) (hK.sub (tys' := [(k8, .int)]) [3] rfl) hNw)⟩ rfl rfl hl.1 rfl (lv_room (Nat.le_of_ble_eq_true rfl)) dX10_priceUpTo_136 ⟨Nat.le_of_ble_eq_true rfl, Nat.le_of_ble_eq_true rfl⟩) (fun r_3 hr_3 => ?_)
                  subst hr_3
                  refine q_ifb_eq (tgt := 146) hx hb dX10_priceUpTo_139 (by decide) (fun c_139 => ?_) (fun c_139 => ?_)
                  · skip
                    refine lv_iconst (v := nI 3) hx hb dX10_priceUpTo_146 (by decide) ?_
                    exact hcut_147 3 _ _ _ _ ⟨(by unfold repp; rw [if_neg c_116, if_neg c_139]), rfl, rfl, (lv_sub hl [0, 1, 2, 3] rfl), rfl⟩
                  · skip
                    refine lv_iconst (v := nI 1) hx hb dX10_priceUpTo_142 (by decide) ?_
                    refine lv_goto (tgt := 147) hx hb dX10_priceUpTo_143 (by decide) ?_
                    exact hcut_147 1 _ _ _ _ ⟨(by unfold repp; rw [if_neg c_116, if_pos c_139]), rfl, rfl, (lv_sub hl [0, 1, 2, 3] rfl), rfl⟩
                · skip
                  refine lv_iconst (v := nI 0) hx hb dX10_priceUpTo_119 (by decide) ?_
                  refine lv_goto (tgt := 147) hx hb dX10_priceUpTo_120 (by decide) ?_
                  exact hcut_147 0 _ _ _ _ ⟨(by unfold repp; rw [if_pos c_116]), rfl, rfl, (lv_sub hl [0, 1, 2, 3] rfl), rfl⟩
      · intro hcut_96
        refine lv_iload_n hx hb dX10_priceUpTo_34 rfl (lv_at hl 2 rfl) ?_
        refine q_if_le (a := i) (tgt := 96) hx hb dX10_priceUpTo_35 (by decide) (by omega) (fun c_35 => ?_) (fun c_35 => ?_)
        · skip
          exact hcut_96 z1 _ _ _ _ ⟨(by omega), rfl, rfl, (lv_sub hl [0, 1, 2, 3] rfl), rfl⟩
        · skip
          refine q_cut 65 (fun (x : (Nat)) (Hc : Heap) (Lc : List Loc) (ls : Array Slot) (st : List Value) => match x with | tw => ((tw = 1 ∧ 1 ≤ i - 1 ∧ ltz a (i - 1) = ltz a (i - 2)) ∨ (tw = 0 ∧ ¬ (1 ≤ i - 1 ∧ ltz a (i - 1) = ltz a (i - 2)))) ∧ s.heap = Hc ∧ [] = Lc ∧ lv_has ls 5 [(3, .int (nI z1)), (0, .ref mo), (1, .int (nI i)), (2, .int (nI j))] ∧ [.int (nI tw)] = st) ?_ ?_
          · clear hl
            rintro tw Hc Lc ls st hI
            obtain ⟨htw, rfl, rfl, hl, rfl⟩ := hI
            refine lv_istore (lv' := [(4, .int (nI tw)), (3, .int (nI z1)), (0, .ref mo), (1, .int (nI i)), (2, .int (nI j))]) hx hb dX10_priceUpTo_65 hl (by decide) rfl (fun ls hl => ?_)
            refine lv_iload_n hx hb dX10_priceUpTo_67 rfl (lv_at hl 1 rfl) ?_
            refine lv_aload_n hx hb dX10_priceUpTo_68 rfl (lv_at hl 2 rfl) ?_
            refine va_get (D := D) (own := RX10) (ref := "FuzzyFensModel") (ci := 9) (v := .ref mt) (C := RX10) (T := TX10) (N := 15) hx hb hts iX10_priceUpTo_X10 hown hK hR 0 rfl rfl 10 (by decide) (hts (.fieldLink RX10 29 "FuzzyFensModel" "table" "[I") (List.mem_of_getElem? (i := 1) rfl)) (fun _ h9 => h9) rfl dX10_priceUpTo_69 ?_
            refine lv_bipush (v := nI 11) hx hb dX10_priceUpTo_72 (by decide) ?_
            refine lv_iload_n hx hb dX10_priceUpTo_74 rfl (lv_at hl 3 rfl) ?_
            refine lv_iconst (v := nI 1) hx hb dX10_priceUpTo_75 (by decide) ?_
            refine q_isub (d := i - 1) hx hb dX10_priceUpTo_76 (by omega) ?_
            refine q_imul (d := 11 * i - 11) hx hb dX10_priceUpTo_77 (by omega) ?_
            refine lv_iload_n hx hb dX10_priceUpTo_78 rfl (lv_at hl 4 rfl) ?_
            refine q_iadd (d := 11 * i + j - 11) hx hb dX10_priceUpTo_79 (by omega) ?_
            refine va_iald (D := D) hx hb hK hR 3 2 rfl rfl (vp_in_nI (n := 11 * i + j - 11) (N := 121) (by omega) (by decide)) dX10_priceUpTo_80 ?_
            rw [nI_clamp (n := 11 * i + j - 11) (by omega)]
            refine q_cvi (show (ft (11 * i + j - 11)) = (nI (pr (ltz a) (ltz b) (i - 1) j)) from (by rw [show 11 * i + j - 11 = 11 * (i - 1) + j by omega]; exact hL _ _ (by omega) (by omega))) ?_
            refine lv_iload hx hb dX10_priceUpTo_81 (lv_at hl 0 rfl) ?_
            refine q_cut 91 (fun (x : (Nat)) (Hc : Heap) (Lc : List Loc) (ls : Array Slot) (st : List Value) => match x with | dl => (dl = delp (ltz a) (i - 1)) ∧ s.heap = Hc ∧ [] = Lc ∧ lv_has ls 5 [(4, .int (nI tw)), (3, .int (nI z1)), (0, .ref mo), (1, .int (nI i)), (2, .int (nI j))] ∧ [.int (nI dl), .int (nI (pr (ltz a) (ltz b) (i - 1) j)), .int (nI z1)] = st) ?_ ?_
            · clear hl
              rintro dl Hc Lc ls st hI
              obtain ⟨hdl, rfl, rfl, hl, rfl⟩ := hI
              refine q_iadd (d := pr (ltz a) (ltz b) (i - 1) j + dl) hx hb dX10_priceUpTo_91 (by omega) ?_
              refine vp_callSi (W.runS (As := [.int (nI z1), .int (nI (pr (ltz a) (ltz b) (i - 1) j + dl))]) (rest := []) ⟨hx, hb, hml, hown, hts⟩ (c_X10_lesser (l := l) (D := D) (a := z1) (b := pr (ltz a) (ltz b) (i - 1) j + dl) (ha := (by have := pz_b1 (by omega) (by omega) hz1; omega)) (hb9 := (by have := pr_bd (a := ltz a) (b := ltz b) (i := i - 1) (j := j) (by omega) (by omega); have := dl_bd (a := ltz a) (i := i - 1); omega))) (va_cwS 2 hts gX10_priceUpTo_X10_lesser rfl rfl rfl (by decide +kernel) ⟨Nat.le_of_ble_eq_true rfl, Nat.le_of_ble_eq_true rfl⟩) ⟨qP_blind, (qP_of (q_Pof (fun _ h => absurd h List.not_mem_nil)) (hK.sub (tys' := []) [] rfl) hNw)⟩ rfl rfl hl.1 rfl (lv_room (Nat.le_of_ble_eq_true rfl)) dX10_priceUpTo_92 ⟨Nat.le_of_ble_eq_true rfl, Nat.le_of_ble_eq_true rfl⟩) (fun r_4 hr_4 => ?_)
              subst hr_4
              refine lv_istore_n (lv' := [(3, .int (nI (min z1 (pr (ltz a) (ltz b) (i - 1) j + dl)))), (4, .int (nI tw)), (0, .ref mo), (1, .int (nI i)), (2, .int (nI j))]) hx hb dX10_priceUpTo_95 rfl hl (by decide) rfl (fun ls hl => ?_)
              exact hcut_96 (min z1 (pr (ltz a) (ltz b) (i - 1) j + dl)) _ _ _ _ ⟨(by omega), rfl, rfl, (lv_sub hl [0, 2, 3, 4] rfl), rfl⟩
            · intro hcut_91
              refine q_if_eq (a := tw) (tgt := 90) hx hb dX10_priceUpTo_83 (by decide) (by omega) (fun c_83 => ?_) (fun c_83 => ?_)
              · skip
                refine lv_iconst (v := nI 2) hx hb dX10_priceUpTo_90 (by decide) ?_
                exact hcut_91 2 _ _ _ _ ⟨(by unfold delp; rw [if_neg (by rw [show i - 1 - 1 = i - 2 by omega]; omega)]), rfl, rfl, (lv_sub hl [0, 1, 2, 3, 4] rfl), rfl⟩
              · skip
                refine lv_iconst (v := nI 1) hx hb dX10_priceUpTo_86 (by decide) ?_
                refine lv_goto (tgt := 91) hx hb dX10_priceUpTo_87 (by decide) ?_
                exact hcut_91 1 _ _ _ _ ⟨(by unfold delp; rw [if_pos (by rw [show i - 1 - 1 = i - 2 by omega]; omega)]), rfl, rfl, (lv_sub hl [0, 1, 2, 3, 4] rfl), rfl⟩
          · intro hcut_65
            refine lv_iload_n hx hb dX10_priceUpTo_38 rfl (lv_at hl 2 rfl) ?_
            refine lv_iconst (v := nI 1) hx hb dX10_priceUpTo_39 (by decide) ?_
            refine q_icmp_le (a := i) (b := 1) (tgt := 64) hx hb dX10_priceUpTo_40 (by decide) (by omega) (by omega) (fun c_40 => ?_) (fun c_40 => ?_)
            · skip
              refine lv_iconst (v := nI 0) hx hb dX10_priceUpTo_64 (by decide) ?_
              exact hcut_65 0 _ _ _ _ ⟨(by omega), rfl, rfl, (lv_sub hl [0, 1, 2, 3] rfl), rfl⟩
            · skip
              refine lv_aload_n hx hb dX10_priceUpTo_43 rfl (lv_at hl 1 rfl) ?_
              refine va_get (D := D) (own := RX10) (ref := "FuzzyFensModel") (ci := 9) (v := .ref m1) (C := RX10) (T := TX10) (N := 15) hx hb hts iX10_priceUpTo_X10 hown hK hR 0 rfl rfl 6 (by decide) (hts (.fieldLink RX10 23 "FuzzyFensModel" "one" "[I") (List.mem_of_getElem? (i := 2) rfl)) (fun _ h9 => h9) rfl dX10_priceUpTo_44 ?_
              refine lv_iload_n hx hb dX10_priceUpTo_47 rfl (lv_at hl 2 rfl) ?_
              refine lv_iconst (v := nI 1) hx hb dX10_priceUpTo_48 (by decide) ?_
              refine q_isub (d := i - 1) hx hb dX10_priceUpTo_49 (by omega) ?_
              refine va_iald (D := D) hx hb hK hR 1 0 rfl rfl (vp_in_nI (n := i - 1) (N := 11) (by omega) (by decide)) dX10_priceUpTo_50 ?_
              rw [nI_clamp (n := i - 1) (by omega)]
              refine q_cvi (show (f1 (i - 1)) = (nI (ltz a (i - 2))) from (by have e7 := hone (i - 2) (by omega); rw [show i - 2 + 1 = i - 1 by omega] at e7; exact e7)) ?_
              refine lv_aload_n hx hb dX10_priceUpTo_51 rfl (lv_at hl 1 rfl) ?_
              refine va_get (D := D) (own := RX10) (ref := "FuzzyFensModel") (ci := 9) (v := .ref m1) (C := RX10) (T := TX10) (N := 15) hx hb hts iX10_priceUpTo_X10 hown hK hR 0 rfl rfl 6 (by decide) (hts (.fieldLink RX10 23 "FuzzyFensModel" "one" "[I") (List.mem_of_getElem? (i := 2) rfl)) (fun _ h9 => h9) rfl dX10_priceUpTo_52 ?_
              refine lv_iload_n hx hb dX10_priceUpTo_55 rfl (lv_at hl 2 rfl) ?_
              refine va_iald (D := D) hx hb hK hR 1 0 rfl rfl (vp_in_nI (n := i) (N := 11) (by omega) (by decide)) dX10_priceUpTo_56 ?_
              rw [nI_clamp (n := i) (by omega)]
              refine q_cvi (show (f1 i) = (nI (ltz a (i - 1))) from (by have e7 := hone (i - 1) (by omega); rw [show i - 1 + 1 = i by omega] at e7; exact e7)) ?_
              refine q_icmp_ne (a := ltz a (i - 2)) (b := ltz a (i - 1)) (tgt := 64) hx hb dX10_priceUpTo_57 (by decide) (by have := ltz_32 a (i - 2); omega) (by have := ltz_32 a (i - 1); omega) (fun c_57 => ?_) (fun c_57 => ?_)
              · skip
                refine lv_iconst (v := nI 0) hx hb dX10_priceUpTo_64 (by decide) ?_
                exact hcut_65 0 _ _ _ _ ⟨(by omega), rfl, rfl, (lv_sub hl [0, 1, 2, 3] rfl), rfl⟩
              · skip
                refine lv_iconst (v := nI 1) hx hb dX10_priceUpTo_60 (by decide) ?_
                refine lv_goto (tgt := 65) hx hb dX10_priceUpTo_61 (by decide) ?_
                exact hcut_65 1 _ _ _ _ ⟨(by omega), rfl, rfl, (lv_sub hl [0, 1, 2, 3] rfl), rfl⟩
    · intro hcut_34
      refine lv_iload_n hx hb dX10_priceUpTo_14 rfl (lv_at hl 3 rfl) ?_
      refine q_if_le (a := j) (tgt := 34) hx hb dX10_priceUpTo_15 (by decide) (by omega) (fun c_15 => ?_) (fun c_15 => ?_)
      · skip
        exact hcut_34 1000 _ _ _ _ ⟨(by omega), rfl, rfl, (lv_sub hl [0, 1, 2, 3] rfl), rfl⟩
      · skip
        refine lv_aload_n hx hb dX10_priceUpTo_18 rfl (lv_at hl 1 rfl) ?_
        refine va_get (D := D) (own := RX10) (ref := "FuzzyFensModel") (ci := 9) (v := .ref mt) (C := RX10) (T := TX10) (N := 15) hx hb hts iX10_priceUpTo_X10 hown hK hR 0 rfl rfl 10 (by decide) (hts (.fieldLink RX10 29 "FuzzyFensModel" "table" "[I") (List.mem_of_getElem? (i := 1) rfl)) (fun _ h9 => h9) rfl dX10_priceUpTo_19 ?_
        refine lv_bipush (v := nI 11) hx hb dX10_priceUpTo_22 (by decide) ?_
        refine lv_iload_n hx hb dX10_priceUpTo_24 rfl (lv_at hl 2 rfl) ?_
        refine q_imul (d := 11 * i) hx hb dX10_priceUpTo_25 (by omega) ?_
        refine lv_iload_n hx hb dX10_priceUpTo_26 rfl (lv_at hl 3 rfl) ?_
        refine q_iadd (d := 11 * i + j) hx hb dX10_priceUpTo_27 (by omega) ?_
        refine lv_iconst (v := nI 1) hx hb dX10_priceUpTo_28 (by decide) ?_
        refine q_isub (d := 11 * i + j - 1) hx hb dX10_priceUpTo_29 (by omega) ?_
        refine va_iald (D := D) hx hb hK hR 3 2 rfl rfl (vp_in_nI (n := 11 * i + j - 1) (N := 121) (by omega) (by decide)) dX10_priceUpTo_30 ?_
        rw [nI_clamp (n := 11 * i + j - 1) (by omega)]
        refine q_cvi (show (ft (11 * i + j - 1)) = (nI (pr (ltz a) (ltz b) i (j - 1))) from (by rw [show 11 * i + j - 1 = 11 * i + (j - 1) by omega]; exact hL _ _ (by omega) (by omega))) ?_
        refine lv_iconst (v := nI 2) hx hb dX10_priceUpTo_31 (by decide) ?_
        refine q_iadd (d := pr (ltz a) (ltz b) i (j - 1) + 2) hx hb dX10_priceUpTo_32 (by omega) ?_
        refine lv_istore_n (lv' := [(3, .int (nI (pr (ltz a) (ltz b) i (j - 1) + 2))), (0, .ref mo), (1, .int (nI i)), (2, .int (nI j))]) hx hb dX10_priceUpTo_33 rfl hl (by decide) rfl (fun ls hl => ?_)
        exact hcut_34 (pr (ltz a) (ltz b) i (j - 1) + 2) _ _ _ _ ⟨(by omega), rfl, rfl, (lv_sub hl [0, 1, 2, 3] rfl), rfl⟩
  · intro hcut_14
    refine lv_iload_n hx hb dX10_priceUpTo_4 rfl (lv_at hl 2 rfl) ?_
    refine q_if_ne (a := i) (tgt := 14) hx hb dX10_priceUpTo_5 (by decide) (by omega) (fun c_5 => ?_) (fun c_5 => ?_)
    · skip
      exact hcut_14 () _ _ _ _ ⟨(by omega), rfl, rfl, (lv_sub hl [0, 1, 2, 3] rfl), rfl⟩
    · skip
      refine lv_iload_n hx hb dX10_priceUpTo_8 rfl (lv_at hl 3 rfl) ?_
      refine q_if_ne (a := j) (tgt := 14) hx hb dX10_priceUpTo_9 (by decide) (by omega) (fun c_9 => ?_) (fun c_9 => ?_)
      · skip
        exact hcut_14 () _ _ _ _ ⟨(by omega), rfl, rfl, (lv_sub hl [0, 1, 2, 3] rfl), rfl⟩
      · skip
        refine lv_iconst (v := nI 0) hx hb dX10_priceUpTo_12 (by decide) ?_
        exact W.iret (v := nI 0) hx hb hr (fun t9 ht _ => ⟨nI 0, rfl, (by rw [c_5, c_9, pr_0]), ht⟩) (fun _ h => absurd h List.not_mem_nil) dX10_priceUpTo_13

set_option maxRecDepth 20000 in
theorem iX10_priceOf_X10 : ∀ w ∈ wsX100, w ∈ wsX10_priceOf := by decide +kernel
set_option maxHeartbeats 4000000 in
set_option maxRecDepth 100000 in
/-- priceOf -/
theorem c_X10_priceOf (l : Launch) (D : va_G) (sz : Nat) (mo : Nat) (mw : Nat) (mct : Nat) (mp : Nat) (mnm : Nat) (m1 : Nat) (m2 : Nat) (mt : Nat) (mk : Nat) (mr : Nat) (ml : Nat) (mq : Nat) (k5 : ClassId) (k6 : ClassId) (k7 : ClassId) (k8 : ClassId) (th : Int32) (n : Nat) (om : Int32) (tm : Int32) (f1 : Nat → Int32) (f2 : Nat → Int32) (ft : Nat → Int32) (a : Nat) (b : Nat) (hnd : ([mo, m1, m2, mt] ++ [mk]).Nodup) (hga : gw a) (hgb : gw b) : Met l yX10_priceOf wsX10_priceOf { frames := 2, cells := 0, slots := 0, locals := 51 } (va_Pc [.ref mo, .long (lN a), .long (lN b)] (qW D sz ([(mk, .inl (k8, 27, .inl (fun k9 => nI (kyf k9))))]) [(mo, .inr (9, [.int th, .int (nI n), .ref mw, .ref mct, .ref mp, .ref mnm, .ref m1, .ref m2, .int om, .int tm, .ref mt, .ref mk, .ref mr, .ref ml, .ref mq])), (m1, .inl (k5, 11, .inl f1)), (m2, .inl (k6, 11, .inl f2)), (mt, .inl (k7, 121, .inl ft))] [(k5, .int), (k6, .int), (k7, .int), (k8, .int)])) (va_Qi (fun (rv : Int32) (uv : (Nat → Int32) × (Nat → Int32) × (Nat → Int32)) => rv = nI (pr (ltz a) (ltz b) (wl a) (wl b))) (fun (uv : (Nat → Int32) × (Nat → Int32) × (Nat → Int32)) (tv : State) => va_P D vwCl [(mo, .inr (9, [.int th, .int (nI n), .ref mw, .ref mct, .ref mp, .ref mnm, .ref m1, .ref m2, .int (nI (wl a)), .int (nI (wl b)), .ref mt, .ref mk, .ref mr, .ref ml, .ref mq])), (m1, .inl (k5, 11, .inl uv.1)), (m2, .inl (k6, 11, .inl uv.2.1)), (mt, .inl (k7, 121, .inl uv.2.2))] tv.heap) (va_A [(mo, .inr (9, [.int th, .int (nI n), .ref mw, .ref mct, .ref mp, .ref mnm, .ref m1, .ref m2, .int om, .int tm, .ref mt, .ref mk, .ref mr, .ref ml, .ref mq])), (m1, .inl (k5, 11, .inl f1)), (m2, .inl (k6, 11, .inl f2)), (mt, .inl (k7, 121, .inl ft))] sz)) 0 0 (va_A [(mo, .inr (9, [.int th, .int (nI n), .ref mw, .ref mct, .ref mp, .ref mnm, .ref m1, .ref m2, .int om, .int tm, .ref mt, .ref mk, .ref mr, .ref ml, .ref mq])), (m1, .inl (k5, 11, .inl f1)), (m2, .inl (k6, 11, .inl f2)), (mt, .inl (k7, 121, .inl ft))] sz) := by
  refine Met.ofW (cc := cX10_priceOf) (maxL := 7) (ret := (some .int)) (by decide) rfl ?_
  intro pM eM s mi9 argsM belowM methM cM sM B hml hv
  obtain ⟨rfl, hsz, hR0, hP, hK, hNw⟩ := hv
  have hx := B.exec
  have hb := B.bytes
  have hr := B.returns
  have hts := atoms_spec (ws := wsX10_priceOf) B.pre
  have hown : s.vm.findClass RX10 = some mi9.cls := findClass_of_methodNamed B.named
  have hlocks := B.notSynchronized
  subst hsz
  have hna := q_na (RW := [(mo, .inr (9, [.int th, .int (nI n), .ref mw, .ref mct, .ref mp, .ref mnm, .ref m1, .ref m2, .int om, .int tm, .ref mt, .ref mk, .ref mr, .ref ml, .ref mq])), (m1, .inl (k5, 11, .inl f1)), (m2, .inl (k6, 11, .inl f2)), (mt, .inl (k7, 121, .inl ft))]) (RO := [(mk, .inl (k8, 27, .inl (fun k9 => nI (kyf k9))))]) hnd rfl rfl hR0
  have hD := q_D (RW := [(mo, .inr (9, [.int th, .int (nI n), .ref mw, .ref mct, .ref mp, .ref mnm, .ref m1, .ref m2, .int om, .int tm, .ref mt, .ref mk, .ref mr, .ref ml, .ref mq])), (m1, .inl (k5, 11, .inl f1)), (m2, .inl (k6, 11, .inl f2)), (mt, .inl (k7, 121, .inl ft))]) (sz := s.heap.size) hnd rfl
  have hA : ∀ q : Nat, s.heap.size ≤ q → va_A [(mo, .inr (9, [.int th, .int (nI n), .ref mw, .ref mct, .ref mp, .ref mnm, .ref m1, .ref m2, .int om, .int tm, .ref mt, .ref mk, .ref mr, .ref ml, .ref mq])), (m1, .inl (k5, 11, .inl f1)), (m2, .inl (k6, 11, .inl f2)), (mt, .inl (k7, 121, .inl ft))] s.heap.size q := fun q h => Or.inr h
  generalize hAe : va_A [(mo, .inr (9, [.int th, .int (nI n), .ref mw, .ref mct, .ref mp, .ref mnm, .ref m1, .ref m2, .int om, .int tm, .ref mt, .ref mk, .ref mr, .ref ml, .ref mq])), (m1, .inl (k5, 11, .inl f1)), (m2, .inl (k6, 11, .inl f2)), (mt, .inl (k7, 121, .inl ft))] s.heap.size = A at hna hD hA ⊢
  have hS : va_S A s.heap s.heap [] := va_S.rf
  have hR := hR0
  have hP : va_P D vwCl [(mo, .inr (9, [.int th, .int (nI n), .ref mw, .ref mct, .ref mp, .ref mnm, .ref m1, .ref m2, .int om, .int tm, .ref mt, .ref mk, .ref mr, .ref ml, .ref mq])), (m1, .inl (k5, 11, .inl f1)), (m2, .inl (k6, 11, .inl f2)), (mt, .inl (k7, 121, .inl ft))] s.heap := hP
  have hl := lv_entry ([.ref mo, .long (lN a), .long (lN b)]) (n := 7) (Nat.le_of_ble_eq_true rfl)
  rw [lg_entry_eq]
  generalize (lg_sl ([.ref mo, .long (lN a), .long (lN b)]) ++ List.replicate (7 - (lg_sl ([.ref mo, .long (lN a), .long (lN b)])).length) Slot.unset).toArray = ls at hl ⊢
  have hl : lv_has ls 7 [(0, .ref mo), (1, .long (lN a)), (3, .long (lN b))] := hl
  have hwa := gw_wl hga
  have hwb := gw_wl hgb
  have hla := gw_lt hga
  have hlb := gw_lt hgb
  refine lv_aload_n hx hb dX10_priceOf_0 rfl (lv_at hl 0 rfl) ?_
  refine lv_lload_n hx hb dX10_priceOf_1 rfl (lv_at hl 1 rfl) ?_
  have hF := va_free (wc := [(mo, .inr (9, [.int th, .int (nI n), .ref mw, .ref mct, .ref mp, .ref mnm, .ref m1, .ref m2, .int om, .int tm, .ref mt, .ref mk, .ref mr, .ref ml, .ref mq])), (m1, .inl (k5, 11, .inl f1))]) hD hS hA [0, 1] rfl
  refine va_callv (va_runV (As := [.long (lN a)]) (rest := []) ⟨hx, hb, hml, hown, hts⟩ (c_X10_layOne (l := l) (D := D) (mo := mo) (mw := mw) (mct := mct) (mp := mp) (mnm := mnm) (m1 := m1) (m2 := m2) (mt := mt) (mk := mk) (mr := mr) (ml := ml) (mq := mq) (k5 := k5) (th := th) (n := n) (om := om) (tm := tm) (f1 := f1) (a := a) (sz := s.heap.size) (hnd := (q_nds hnd [0, 1] rfl rfl)) (ha := by omega) (hw := by omega)) (cwV 1 hts gX10_priceOf_X10_layOne rfl rfl rfl (by decide +kernel) ⟨Nat.le_of_ble_eq_true rfl, Nat.le_of_ble_eq_true rfl⟩) ⟨qW_blind, (va_recv hK hP (ci := 9) (q0 := 0) rfl rfl), (qW_of (q_Pof (fun _ h => absurd h List.not_mem_nil)) (hP.sub (ws' := [(mo, .inr (9, [.int th, .int (nI n), .ref mw, .ref mct, .ref mp, .ref mnm, .ref m1, .ref m2, .int om, .int tm, .ref mt, .ref mk, .ref mr, .ref ml, .ref mq])), (m1, .inl (k5, 11, .inl f1))]) [0, 1] rfl) (hK.sub (tys' := [(k5, .int)]) [0] rfl) hNw)⟩ rfl rfl hl.1 rfl (lv_room (Nat.le_of_ble_eq_true rfl)) dX10_priceOf_2 ⟨Nat.le_of_ble_eq_true rfl, Nat.le_of_ble_eq_true rfl⟩) hS (fun q _ h => hF q h) hF (fun u_5 t_4 H_2 locs_3 ht hvm hr_1 hB hz1 hk1 hS => ?_)
  obtain ⟨g1, rfl⟩ : ∃ z, z = u_5 := ⟨_, rfl⟩
  replace hB : va_P D vwCl [(mo, .inr (9, [.int th, .int (nI n), .ref mw, .ref mct, .ref mp, .ref mnm, .ref m1, .ref m2, .int (nI (wl a)), .int tm, .ref mt, .ref mk, .ref mr, .ref ml, .ref mq])), (m1, .inl (k5, 11, .inl g1))] H_2 := by rw [← ht]; exact hB
  obtain ⟨hP, hD⟩ := q_join (wc := [(mo, .inr (9, [.int th, .int (nI n), .ref mw, .ref mct, .ref mp, .ref mnm, .ref m1, .ref m2, .int om, .int tm, .ref mt, .ref mk, .ref mr, .ref ml, .ref mq])), (m1, .inl (k5, 11, .inl f1))]) (w1 := [(mo, .inr (9, [.int th, .int (nI n), .ref mw, .ref mct, .ref mp, .ref mnm, .ref m1, .ref m2, .int (nI (wl a)), .int tm, .ref mt, .ref mk, .ref mr, .ref ml, .ref mq])), (m1, .inl (k5, 11, .inl g1))]) (ws' := [(mo, .inr (9, [.int th, .int (nI n), .ref mw, .ref mct, .ref mp, .ref mnm, .ref m1, .ref m2, .int (nI (wl a)), .int tm, .ref mt, .ref mk, .ref mr, .ref ml, .ref mq])), (m1, .inl (k5, 11, .inl g1)), (m2, .inl (k6, 11, .inl f2)), (mt, .inl (k7, 121, .inl ft))]) [0, 1] hP hD rfl rfl hk1 hB rfl
  have hR := q_ro hR0 hna hS
  have hone := hr_1
  refine lv_aload_n hx hb dX10_priceOf_5 rfl (lv_at hl 0 rfl) ?_
  refine lv_lload_n hx hb dX10_priceOf_6 rfl (lv_at hl 2 rfl) ?_
  have hF := va_free (wc := [(mo, .inr (9, [.int th, .int (nI n), .ref mw, .ref mct, .ref mp, .ref mnm, .ref m1, .ref m2, .int (nI (wl a)), .int tm, .ref mt, .ref mk, .ref mr, .ref ml, .ref mq])), (m2, .inl (k6, 11, .inl f2))]) hD hS hA [0, 2] rfl
  refine va_callv (va_runV (As := [.long (lN b)]) (rest := []) ⟨hx, hb, hml, hown, hts⟩ (c_X10_layOther (l := l) (D := D) (mo := mo) (mw := mw) (mct := mct) (mp := mp) (mnm := mnm) (m1 := m1) (m2 := m2) (mt := mt) (mk := mk) (mr := mr) (ml := ml) (mq := mq) (k6 := k6) (th := th) (n := n) (om := nI (wl a)) (tm := tm) (f2 := f2) (a := b) (sz := H_2.size) (hnd := (q_nds hnd [0, 2] rfl rfl)) (ha := by omega) (hw := by omega)) (cwV 1 hts gX10_priceOf_X10_layOther rfl rfl rfl (by decide +kernel) ⟨Nat.le_of_ble_eq_true rfl, Nat.le_of_ble_eq_true rfl⟩) ⟨qW_blind, (va_recv hK hP (ci := 9) (q0 := 0) rfl rfl), (qW_of (q_Pof (fun _ h => absurd h List.not_mem_nil)) (hP.sub (ws' := [(mo, .inr (9, [.int th, .int (nI n), .ref mw, .ref mct, .ref mp, .ref mnm, .ref m1, .ref m2, .int (nI (wl a)), .int tm, .ref mt, .ref mk, .ref mr, .ref ml, .ref mq])), (m2, .inl (k6, 11, .inl f2))]) [0, 2] rfl) (hK.sub (tys' := [(k6, .int)]) [1] rfl) hNw)⟩ rfl rfl hl.1 rfl (lv_room (Nat.le_of_ble_eq_true rfl)) dX10_priceOf_7 ⟨Nat.le_of_ble_eq_true rfl, Nat.le_of_ble_eq_true rfl⟩) hS (fun q _ h => hF q h) hF (fun u_10 t_9 H_7 locs_8 ht hvm hr_6 hB hz1 hk1 hS => ?_)
  obtain ⟨g2, rfl⟩ : ∃ z, z = u_10 := ⟨_, rfl⟩
  replace hB : va_P D vwCl [(mo, .inr (9, [.int th, .int (nI n), .ref mw, .ref mct, .ref mp, .ref mnm, .ref m1, .ref m2, .int (nI (wl a)), .int (nI (wl b)), .ref mt, .ref mk, .ref mr, .ref ml, .ref mq])), (m2, .inl (k6, 11, .inl g2))] H_7 := by rw [← ht]; exact hB
  obtain ⟨hP, hD⟩ := q_join (wc := [(mo, .inr (9, [.int th, .int (nI n), .ref mw, .ref mct, .ref mp, .ref mnm, .ref m1, .ref m2, .int (nI (wl a)), .int tm, .ref mt, .ref mk, .ref mr, .ref ml, .ref mq])), (m2, .inl (k6, 11, .inl f2))]) (w1 := [(mo, .inr (9, [.int th, .int (nI n), .ref mw, .ref mct, .ref mp, .ref mnm, .ref m1, .ref m2, .int (nI (wl a)), .int (nI (wl b)), .ref mt, .ref mk, .ref mr, .ref ml, .ref mq])), (m2, .inl (k6, 11, .inl g2))]) (ws' := [(mo, .inr (9, [.int th, .int (nI n), .ref mw, .ref mct, .ref mp, .ref mnm, .ref m1, .ref m2, .int (nI (wl a)), .int (nI (wl b)), .ref mt, .ref mk, .ref mr, .ref ml, .ref mq])), (m1, .inl (k5, 11, .inl g1)), (m2, .inl (k6, 11, .inl g2)), (mt, .inl (k7, 121, .inl ft))]) [0, 2] hP hD rfl rfl hk1 hB rfl
  have hR := q_ro hR0 hna hS
  have hoth := hr_6
  refine lv_iconst (v := nI 0) hx hb dX10_priceOf_10 (by decide) ?_
  refine lv_istore (lv' := [(5, .int (nI 0)), (0, .ref mo), (1, .long (lN a)), (3, .long (lN b))]) hx hb dX10_priceOf_11 hl (by decide) rfl (fun ls hl => ?_)
  refine q_loop (fun (x : (Nat) × (Nat → Int32)) (H : Heap) (locs : List Loc) (ls : Array Slot) => match x with | (i, h1) => (i ≤ wl a + 1) ∧ (∀ i9 j, j ≤ wl b → i9 < i → h1 (11 * i9 + j) = nI (pr (ltz a) (ltz b) i9 j)) ∧ va_P D vwCl [(mo, .inr (9, [.int th, .int (nI n), .ref mw, .ref mct, .ref mp, .ref mnm, .ref m1, .ref m2, .int (nI (wl a)), .int (nI (wl b)), .ref mt, .ref mk, .ref mr, .ref ml, .ref mq])), (m1, .inl (k5, 11, .inl g1)), (m2, .inl (k6, 11, .inl g2)), (mt, .inl (k7, 121, .inl h1))] H ∧ va_D A [(mo, .inr (9, [.int th, .int (nI n), .ref mw, .ref mct, .ref mp, .ref mnm, .ref m1, .ref m2, .int (nI (wl a)), .int (nI (wl b)), .ref mt, .ref mk, .ref mr, .ref ml, .ref mq])), (m1, .inl (k5, 11, .inl g1)), (m2, .inl (k6, 11, .inl g2)), (mt, .inl (k7, 121, .inl h1))] ∧ va_S A s.heap H locs ∧ lv_has ls 7 [(5, .int (nI i)), (0, .ref mo), (1, .long (lN a)), (3, .long (lN b))]) (fun (x : (Nat) × (Nat → Int32)) => match x with | (i, h1) => wl a + 1 - i) (0, ft) ⟨(by omega), (fun i9 j _ h => by omega), hP, hD, hS, (lv_sub hl [0, 1, 2, 3] rfl)⟩ ?_
  clear hl
  clear hP hD hS
  rintro ⟨i, h1⟩ H locs ls hI ih_13
  obtain ⟨hi, hrow, hP, hD, hS, hl⟩ := hI
  have hR := q_ro hR0 hna hS
  refine lv_iload hx hb dX10_priceOf_13 (lv_at hl 0 rfl) ?_
  refine lv_aload_n hx hb dX10_priceOf_15 rfl (lv_at hl 1 rfl) ?_
  refine va_get (D := D) (own := RX10) (ref := "FuzzyFensModel") (ci := 9) (v := .int (nI (wl a))) (C := RX10) (T := TX10) (N := 15) hx hb hts iX10_priceOf_X10 hown hK hP 0 rfl rfl 8 (by decide) (hts (.fieldLink RX10 56 "FuzzyFensModel" "oneMany" "I") (List.mem_of_getElem? (i := 1) rfl)) (fun _ h9 => h9) rfl dX10_priceOf_16 ?_
  refine q_icmp_gt (a := i) (b := wl a) (tgt := 67) hx hb dX10_priceOf_19 (by decide) (by omega) (by omega) (fun c_19 => ?_) (fun c_19 => ?_)
  · skip
    refine lv_aload_n hx hb dX10_priceOf_67 rfl (lv_at hl 1 rfl) ?_
    refine va_get (D := D) (own := RX10) (ref := "FuzzyFensModel") (ci := 9) (v := .ref mt) (C := RX10) (T := TX10) (N := 15) hx hb hts iX10_priceOf_X10 hown hK hP 0 rfl rfl 10 (by decide) (hts (.fieldLink RX10 29 "FuzzyFensModel" "table" "[I") (List.mem_of_getElem? (i := 3) rfl)) (fun _ h9 => h9) rfl dX10_priceOf_68 ?_
    refine lv_bipush (v := nI 11) hx hb dX10_priceOf_71 (by decide) ?_
    refine lv_aload_n hx hb dX10_priceOf_73 rfl (lv_at hl 1 rfl) ?_
    refine va_get (D := D) (own := RX10) (ref := "FuzzyFensModel") (ci := 9) (v := .int (nI (wl a))) (C := RX10) (T := TX10) (N := 15) hx hb hts iX10_priceOf_X10 hown hK hP 0 rfl rfl 8 (by decide) (hts (.fieldLink RX10 56 "FuzzyFensModel" "oneMany" "I") (List.mem_of_getElem? (i := 1) rfl)) (fun _ h9 => h9) rfl dX10_priceOf_74 ?_
    refine q_imul (d := 11 * (wl a)) hx hb dX10_priceOf_77 (by omega) ?_
    refine lv_aload_n hx hb dX10_priceOf_78 rfl (lv_at hl 1 rfl) ?_
    refine va_get (D := D) (own := RX10) (ref := "FuzzyFensModel") (ci := 9) (v := .int (nI (wl b))) (C := RX10) (T := TX10) (N := 15) hx hb hts iX10_priceOf_X10 hown hK hP 0 rfl rfl 9 (by decide) (hts (.fieldLink RX10 59 "FuzzyFensModel" "otherMany" "I") (List.mem_of_getElem? (i := 2) rfl)) (fun _ h9 => h9) rfl dX10_priceOf_79 ?_
    refine q_iadd (d := 11 * (wl a) + wl b) hx hb dX10_priceOf_82 (by omega) ?_
    refine va_iald (D := D) hx hb hK hP 3 2 rfl rfl (vp_in_nI (n := 11 * (wl a) + wl b) (N := 121) (by omega) (by decide)) dX10_priceOf_83 ?_
    rw [nI_clamp (n := 11 * (wl a) + wl b) (by omega)]
    exact W.iret (v := h1 (11 * (wl a) + wl b)) hx hb hr (fun t9 ht hW => ⟨⟨h1 (11 * (wl a) + wl b), (g1, g2, h1), rfl, (hrow _ _ (Nat.le_refl _) (by omega)), by show va_P D vwCl _ t9.heap; rw [ht]; exact hP⟩, hS.F ht⟩) hS.2.2 dX10_priceOf_84
  · skip
    refine lv_iconst (v := nI 0) hx hb dX10_priceOf_22 (by decide) ?_
    refine lv_istore (lv' := [(6, .int (nI 0)), (5, .int (nI i)), (0, .ref mo), (1, .long (lN a)), (3, .long (lN b))]) hx hb dX10_priceOf_23 hl (by decide) rfl (fun ls hl => ?_)
    refine q_loop (fun (x : (Nat) × (Nat → Int32)) (H : Heap) (locs : List Loc) (ls : Array Slot) => match x with | (j, h2) => (j ≤ wl b + 1) ∧ (∀ i9 j9, j9 ≤ wl b → i9 < i ∨ (i9 = i ∧ j9 < j) → h2 (11 * i9 + j9) = nI (pr (ltz a) (ltz b) i9 j9)) ∧ va_P D vwCl [(mo, .inr (9, [.int th, .int (nI n), .ref mw, .ref mct, .ref mp, .ref mnm, .ref m1, .ref m2, .int (nI (wl a)), .int (nI (wl b)), .ref mt, .ref mk, .ref mr, .ref ml, .ref mq])), (m1, .inl (k5, 11, .inl g1)), (m2, .inl (k6, 11, .inl g2)), (mt, .inl (k7, 121, .inl h2))] H ∧ va_D A [(mo, .inr (9, [.int th, .int (nI n), .ref mw, .ref mct, .ref mp, .ref mnm, .ref m1, .ref m2, .int (nI (wl a)), .int (nI (wl b)), .ref mt, .ref mk, .ref mr, .ref ml, .ref mq])), (m1, .inl (k5, 11, .inl g1)), (m2, .inl (k6, 11, .inl g2)), (mt, .inl (k7, 121, .inl h2))] ∧ va_S A s.heap H locs ∧ lv_has ls 7 [(6, .int (nI j)), (5, .int (nI i)), (0, .ref mo), (1, .long (lN a)), (3, .long (lN b))]) (fun (x : (Nat) × (Nat → Int32)) => match x with | (j, h2) => wl b + 1 - j) (0, h1) ⟨(by omega), (fun i9 j9 hj9 h => hrow i9 j9 hj9 (by omega)), hP, hD, hS, (lv_sub hl [0, 1, 2, 3, 4] rfl)⟩ ?_
    clear hl
    clear hP hD hS
    rintro ⟨j, h2⟩ H locs ls hI ih_25
    obtain ⟨hj, hcell, hP, hD, hS, hl⟩ := hI
    have hR := q_ro hR0 hna hS
    refine lv_iload hx hb dX10_priceOf_25 (lv_at hl 0 rfl) ?_
    refine lv_aload_n hx hb dX10_priceOf_27 rfl (lv_at hl 2 rfl) ?_
    refine va_get (D := D) (own := RX10) (ref := "FuzzyFensModel") (ci := 9) (v := .int (nI (wl b))) (C := RX10) (T := TX10) (N := 15) hx hb hts iX10_priceOf_X10 hown hK hP 0 rfl rfl 9 (by decide) (hts (.fieldLink RX10 59 "FuzzyFensModel" "otherMany" "I") (List.mem_of_getElem? (i := 2) rfl)) (fun _ h9 => h9) rfl dX10_priceOf_28 ?_
    refine q_icmp_gt (a := j) (b := wl b) (tgt := 61) hx hb dX10_priceOf_31 (by decide) (by omega) (by omega) (fun c_31 => ?_) (fun c_31 => ?_)
    · skip
      refine lv_iinc (v := nI (i + 1)) (lv' := [(5, .int (nI (i + 1))), (6, .int (nI j)), (0, .ref mo), (1, .long (lN a)), (3, .long (lN b))]) hx hb dX10_priceOf_61 hl (k := 1) rfl (q_inc (k := 1) (by omega)) (by decide) rfl (fun ls hl => ?_)
      refine lv_goto (tgt := 13) hx hb dX10_priceOf_64 (by decide) ?_
      exact ih_13 (i + 1, h2) _ _ _ ⟨(by omega), (fun i9 j hj hi9 => hcell i9 j hj (by omega)), hP, hD, hS, (lv_sub hl [0, 2, 3, 4] rfl)⟩ (by show wl a + 1 - (i + 1) < wl a + 1 - i; omega)
    · skip
      refine lv_aload_n hx hb dX10_priceOf_34 rfl (lv_at hl 2 rfl) ?_
      refine va_get (D := D) (own := RX10) (ref := "FuzzyFensModel") (ci := 9) (v := .ref mt) (C := RX10) (T := TX10) (N := 15) hx hb hts iX10_priceOf_X10 hown hK hP 0 rfl rfl 10 (by decide) (hts (.fieldLink RX10 29 "FuzzyFensModel" "table" "[I") (List.mem_of_getElem? (i := 3) rfl)) (fun _ h9 => h9) rfl dX10_priceOf_35 ?_
      refine lv_bipush (v := nI 11) hx hb dX10_priceOf_38 (by decide) ?_
      refine lv_iload hx hb dX10_priceOf_40 (lv_at hl 1 rfl) ?_
      refine q_imul (d := 11 * i) hx hb dX10_priceOf_42 (by omega) ?_
      refine lv_iload hx hb dX10_priceOf_43 (lv_at hl 0 rfl) ?_
      refine q_iadd (d := 11 * i + j) hx hb dX10_priceOf_45 (by omega) ?_
      refine lv_aload_n hx hb dX10_priceOf_46 rfl (lv_at hl 2 rfl) ?_
      refine lv_iload hx hb dX10_priceOf_47 (lv_at hl 1 rfl) ?_
      refine lv_iload hx hb dX10_priceOf_49 (lv_at hl 0 rfl) ?_
      refine vp_callSi (W.runV (As := [.int (nI i), .int (nI j)]) (rest := [.int (nI (11 * i + j)), .ref mt]) ⟨hx, hb, hml, hown, hts⟩ (c_X10_priceUpTo (l := l) (D := D) (mo := mo) (mw := mw) (mct := mct) (mp := mp) (mnm := mnm) (m1 := m1) (m2 := m2) (mt := mt) (mk := mk) (mr := mr) (ml := ml) (mq := mq) (k5 := k5) (k6 := k6) (k7 := k7) (k8 := k8) (th := th) (n := n) (om := nI (wl a)) (tm := nI (wl b)) (f1 := g1) (f2 := g2) (ft := h2) (a := a) (b := b) (i := i) (j := j) (hga := hga) (hgb := hgb) (hone := hone) (hoth := hoth) (hi := by omega) (hj := by omega) (hL := hcell)) (cwV 2 hts gX10_priceOf_X10_priceUpTo rfl rfl rfl (by decide +kernel) ⟨Nat.le_of_ble_eq_true rfl, Nat.le_of_ble_eq_true rfl⟩) ⟨qP_blind, (va_recv hK hP (ci := 9) (q0 := 0) rfl rfl), (qP_of (show va_P D vwCl [(mo, .inr (9, [.int th, .int (nI n), .ref mw, .ref mct, .ref mp, .ref mnm, .ref m1, .ref m2, .int (nI (wl a)), .int (nI (wl b)), .ref mt, .ref mk, .ref mr, .ref ml, .ref mq])), (m1, .inl (k5, 11, .inl g1)), (m2, .inl (k6, 11, .inl g2)), (mt, .inl (k7, 121, .inl h2)), (mk, .inl (k8, 27, .inl (fun k9 => nI (kyf k9))))] _ from (va_P.app (hP.sub (ws' := [(mo, .inr (9, [.int th, .int (nI n), .ref mw, .ref mct, .ref mp, .ref mnm, .ref m1, .ref m2, .int (nI (wl a)), .int (nI (wl b)), .ref mt, .ref mk, .ref mr, .ref ml, .ref mq]))]) [0] rfl) (va_P.app (hP.sub (ws' := [(m1, .inl (k5, 11, .inl g1))]) [1] rfl) (va_P.app (hP.sub (ws' := [(m2, .inl (k6, 11, .inl g2))]) [2] rfl) (va_P.app (hP.sub (ws' := [(mt, .inl (k7, 121, .inl h2))]) [3] rfl) (hR.sub (ws' := [(mk, .inl (k8, 27, .inl (fun k9 => nI (kyf k9))))]) [0] rfl)))))) (hK.sub (tys' := [(k5, .int), (k6, .int), (k7, .int), (k8, .int)]) [0, 1, 2, 3] rfl) hNw)⟩ rfl rfl hl.1 rfl (lv_room (Nat.le_of_ble_eq_true rfl)) dX10_priceOf_51 ⟨Nat.le_of_ble_eq_true rfl, Nat.le_of_ble_eq_true rfl⟩) (fun r_11 hr_11 => ?_)
      subst hr_11
      refine va_iast (D := D) hx hb hK hP hD hS 3 2 rfl rfl (vp_in_nI (n := 11 * i + j) (N := 121) (by omega) (by decide)) dX10_priceOf_54 (fun H_12 locs_13 hP hD hS => ?_)
      rw [nI_clamp (n := 11 * i + j) (by omega)] at hP hD
      have hP : va_P D vwCl [(mo, .inr (9, [.int th, .int (nI n), .ref mw, .ref mct, .ref mp, .ref mnm, .ref m1, .ref m2, .int (nI (wl a)), .int (nI (wl b)), .ref mt, .ref mk, .ref mr, .ref ml, .ref mq])), (m1, .inl (k5, 11, .inl g1)), (m2, .inl (k6, 11, .inl g2)), (mt, .inl (k7, 121, .inl (upd h2 (11 * i + j) (nI (pr (ltz a) (ltz b) i j)))))] H_12 := hP
      have hD : va_D A [(mo, .inr (9, [.int th, .int (nI n), .ref mw, .ref mct, .ref mp, .ref mnm, .ref m1, .ref m2, .int (nI (wl a)), .int (nI (wl b)), .ref mt, .ref mk, .ref mr, .ref ml, .ref mq])), (m1, .inl (k5, 11, .inl g1)), (m2, .inl (k6, 11, .inl g2)), (mt, .inl (k7, 121, .inl (upd h2 (11 * i + j) (nI (pr (ltz a) (ltz b) i j)))))] := hD
      have hR := q_ro hR0 hna hS
      refine lv_iinc (v := nI (j + 1)) (lv' := [(6, .int (nI (j + 1))), (5, .int (nI i)), (0, .ref mo), (1, .long (lN a)), (3, .long (lN b))]) hx hb dX10_priceOf_55 hl (k := 0) rfl (q_inc (k := 1) (by omega)) (by decide) rfl (fun ls hl => ?_)
      refine lv_goto (tgt := 25) hx hb dX10_priceOf_58 (by decide) ?_
      exact ih_25 (j + 1, upd h2 (11 * i + j) (nI (pr (ltz a) (ltz b) i j))) _ _ _ ⟨(by omega), (by intro i9 j9 hj9 h; by_cases e : i9 = i ∧ j9 = j; (rw [e.1, e.2, pk_us]); (rw [pk_un (by omega)]; exact hcell i9 j9 hj9 (by omega))), hP, hD, hS, (lv_sub hl [0, 1, 2, 3, 4] rfl)⟩ (by show wl b + 1 - (j + 1) < wl b + 1 - j; omega)
