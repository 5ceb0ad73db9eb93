/-! one turn of the law, its loop -/
def LWI (D : va_G) (s : State) (A : Nat → Prop) (xo gg gr ce tr sh ar ti n1 l1 s2 a2 s3 a3 n2 l2 : Nat) (cG cS cJ1 cS2 cS3 cJ2 : ClassId) (xo7 gg7 gr7 ce7 tr7 sh7 ar7 ti7 n17 l17 s27 a27 s37 a37 n27 l27 : Nat) (cG7 cS7 cJ17 cS27 cS37 cJ27 : ClassId) (H : Heap) (locs : List Loc) : Prop := ∃ (n m : Nat) (wd ct : Nat → Nat) (pa : Nat → Option Nat) (nm dp ki : Nat → Nat), INV n wd ct pa nm dp ki m ∧ BK n wd pa nm ∧ LWS D s A xo gg gr ce tr sh ar ti n1 l1 s2 a2 s3 a3 n2 l2 cG cS cJ1 cS2 cS3 cJ2 xo7 gg7 gr7 ce7 tr7 sh7 ar7 ti7 n17 l17 s27 a27 s37 a37 n27 l27 cG7 cS7 cJ17 cS27 cS37 cJ27 n m wd ct pa nm dp ki n m wd ct pa nm dp ki H locs
theorem add_v {a : Nat} {x9 : Int32} (h : gw a ∧ nI 1 ≤ x9 ∧ x9 ≤ nI 1000) : 1 ≤ kz x9 ∧ kz x9 ≤ 1000 := by
  have h1 := kz_ge (by decide) h.2.1
  exact ⟨h1.2, kz_le (by decide) h1.1 h.2.2⟩

set_option maxHeartbeats 4000000 in
set_option maxRecDepth 100000 in
/-- one turn -/
theorem lw_body {p : Program} {l : Launch} {e : Env} {s : State} {mi9 : MethodId} {belowM : List Frame} {methM : Method} {cM : Code} {Q : State → Prop} {D : va_G} {A : Nat → Prop} {b L : Nat} {xs : Nat → Int32} {xo gg gr ce tr sh ar ti n1 l1 s2 a2 s3 a3 n2 l2 : Nat} {cG cS cJ1 cS2 cS3 cJ2 : ClassId} {xo7 gg7 gr7 ce7 tr7 sh7 ar7 ti7 n17 l17 s27 a27 s37 a37 n27 l27 : Nat} {cG7 cS7 cJ17 cS27 cS37 cJ27 : ClassId} {e9 : Nat} {H : Heap} {locs : List Loc} {ls : Array Slot} {cells slots : Nat} (hE : LWE p l s mi9 cM D A b L xs [(cG, .int), (cS, .object "FuzzyFens$Entry"), (cJ1, .long), (cS2, .object "FuzzyFens$Entry"), (cS3, .object "FuzzyFens$Entry"), (cJ2, .long), (cG7, .int), (cS7, .object "FuzzyFens$Entry"), (cJ17, .long), (cS27, .object "FuzzyFens$Entry"), (cS37, .object "FuzzyFens$Entry"), (cJ27, .long)]) (he : e9 < 50) (hWI : LWI D s A xo gg gr ce tr sh ar ti n1 l1 s2 a2 s3 a3 n2 l2 cG cS cJ1 cS2 cS3 cJ2 xo7 gg7 gr7 ce7 tr7 sh7 ar7 ti7 n17 l17 s27 a27 s37 a37 n27 l27 cG7 cS7 cJ17 cS27 cS37 cJ27 H locs) (hl : lv_has ls 13 [(0, .ref b), (1, .ref xo), (2, .ref xo7), (3, .int (nI e9))]) (hc9 : cells + 2500 ≤ 1019453) (hs9 : slots + 15000 ≤ 6043265)
    (K : ∀ (H2 : Heap) (locs2 : List Loc) (ls2 : Array Slot) (c92 s92 : Nat), LWI D s A xo gg gr ce tr sh ar ti n1 l1 s2 a2 s3 a3 n2 l2 cG cS cJ1 cS2 cS3 cJ2 xo7 gg7 gr7 ce7 tr7 sh7 ar7 ti7 n17 l17 s27 a27 s37 a37 n27 l27 cG7 cS7 cJ17 cS27 cS37 cJ27 H2 locs2 → lv_has ls2 13 [(0, .ref b), (1, .ref xo), (2, .ref xo7), (3, .int (nI e9))] → c92 ≤ cells + 2500 → s92 ≤ slots + 15000 → W p l e room_1 s mi9 #[Value.ref b] belowM methM cM H2 locs2 c92 s92 Q (F0 mi9 254 ls2 [])) : W p l e room_1 s mi9 #[Value.ref b] belowM methM cM H locs cells slots Q (F0 mi9 24 ls []) := by
  have hE0 := hE
  obtain ⟨hx, hb, hml, hown, hts, hX, hbl, hbA, hA, hK, hNw, hZ, hXt, hst, hL⟩ := hE0
  obtain ⟨n, m, wd, ct, pa, nm, dp, ki, hI, hB, hW⟩ := hWI
  have hm40 : m ≤ 40 := Nat.le_trans (kn_le (hI.2.2.2.2.2.2.2.2.2.1) (hI.2.2.2.2.2.2.2.2.2.2)) hI.1
  have hKo : va_K D vwCl [(cG, .int), (cS, .object "FuzzyFens$Entry"), (cJ1, .long), (cS2, .object "FuzzyFens$Entry"), (cS3, .object "FuzzyFens$Entry"), (cJ2, .long)] s := hK.sub (tys' := [(cG, .int), (cS, .object "FuzzyFens$Entry"), (cJ1, .long), (cS2, .object "FuzzyFens$Entry"), (cS3, .object "FuzzyFens$Entry"), (cJ2, .long)]) [0, 1, 2, 3, 4, 5] rfl
  have hK7 : va_K D vwCl [(cG7, .int), (cS7, .object "FuzzyFens$Entry"), (cJ17, .long), (cS27, .object "FuzzyFens$Entry"), (cS37, .object "FuzzyFens$Entry"), (cJ27, .long)] s := hK.sub (tys' := [(cG7, .int), (cS7, .object "FuzzyFens$Entry"), (cJ17, .long), (cS27, .object "FuzzyFens$Entry"), (cS37, .object "FuzzyFens$Entry"), (cJ27, .long)]) [6, 7, 8, 9, 10, 11] rfl
  have hK0 : va_K D vwCl [] s := hK.sub (tys' := []) [] rfl
  have hS := lws_S hW
  have hR : va_P D vwCl [] H := q_R0
  refine lv_aload_n hx hb dL_law_24 rfl (lv_at hl 0 rfl) ?_
  refine lv_iload_n hx hb dL_law_25 rfl (lv_at hl 3 rfl) ?_
  refine vp_callSi (W.runS (As := [.ref b, .int (nI e9)]) (rest := []) ⟨hx, hb, hml, hown, hts⟩ (c_L_cell (l := l) (D := D) (b := b) (L := L) (xs := xs) (k := e9) (hL := by omega) (hk := by omega)) (va_cwS 2 hts gL_law_L_cell rfl rfl rfl (by decide +kernel) ⟨Nat.le_of_ble_eq_true rfl, Nat.le_of_ble_eq_true rfl⟩) ⟨qPt_blind, (qPt_of (q_Pof (fun _ h => absurd h List.not_mem_nil)) hK0 hNw (q_script (va_X.kept hX (hS.2.1 b hbl hbA)) (fun h => h)))⟩ rfl rfl hl.1 rfl (lv_room (Nat.le_of_ble_eq_true rfl)) dL_law_26 ⟨by show _ ≤ 1019453; omega, by show _ ≤ 6043265; omega⟩) (fun r_1 hr_1 => ?_)
  refine lv_istore (lv' := [(4, .int r_1), (0, .ref b), (1, .ref xo), (2, .ref xo7), (3, .int (nI e9))]) hx hb dL_law_29 hl (by decide) rfl (fun ls hl => ?_)
  refine q_cutC 49 (cells + 0) (slots + 0) (fun (x : (Int32)) (Hc : Heap) (Lc : List Loc) (ls : Array Slot) (st : List Value) => match x with | z5 => LWS D s A xo gg gr ce tr sh ar ti n1 l1 s2 a2 s3 a3 n2 l2 cG cS cJ1 cS2 cS3 cJ2 xo7 gg7 gr7 ce7 tr7 sh7 ar7 ti7 n17 l17 s27 a27 s37 a37 n27 l27 cG7 cS7 cJ17 cS27 cS37 cJ27 n m wd ct pa nm dp ki n m wd ct pa nm dp ki Hc Lc ∧ lv_has ls 13 [(4, .int r_1), (0, .ref b), (1, .ref xo), (2, .ref xo7), (3, .int (nI e9))] ∧ [.int z5] = st) ?_ ?_
  · clear hl hW hS hR
    rintro z5 H_2 locs_3 ls st h0
    obtain ⟨hW, hl, rfl⟩ := h0
    have hS := lws_S hW
    have hR : va_P D vwCl [] H_2 := q_R0
    refine lv_istore (lv' := [(5, .int z5), (4, .int r_1), (0, .ref b), (1, .ref xo), (2, .ref xo7), (3, .int (nI e9))]) hx hb dL_law_49 hl (by decide) rfl (fun ls hl => ?_)
    refine lv_iload hx hb dL_law_51 (lv_at hl 1 rfl) ?_
    refine lv_iload hx hb dL_law_53 (lv_at hl 0 rfl) ?_
    refine vp_callSl (W.runS (As := [.int r_1, .int z5]) (rest := []) ⟨hx, hb, hml, hown, hts⟩ (c_L_word (l := l) (D := D) (v9 := r_1) (z9 := z5) ) (va_cwS 2 hts gL_law_L_word rfl rfl rfl (by decide +kernel) ⟨Nat.le_of_ble_eq_true rfl, Nat.le_of_ble_eq_true rfl⟩) ⟨qP_blind, (qP_of (q_Pof (fun _ h => absurd h List.not_mem_nil)) hK0 hNw)⟩ rfl rfl hl.1 rfl (lv_room (Nat.le_of_ble_eq_true rfl)) dL_law_55 ⟨by show _ ≤ 1019453; omega, by show _ ≤ 6043265; omega⟩) (fun r_4 hr_4 => ?_)
    have f_r_4 := hr_4
    obtain ⟨a6, ha6, ea6⟩ := q_lN r_4
    refine q_cvl ea6 ?_
    refine lv_lstore (lv' := [(6, .long (lN a6)), (5, .int z5), (4, .int r_1), (0, .ref b), (1, .ref xo), (2, .ref xo7), (3, .int (nI e9))]) hx hb dL_law_58 hl (by decide) rfl (fun ls hl => ?_)
    refine q_cutC 74 (cells + 0) (slots + 0) (fun (x : (Int32)) (Hc : Heap) (Lc : List Loc) (ls : Array Slot) (st : List Value) => match x with | z8 => LWS D s A xo gg gr ce tr sh ar ti n1 l1 s2 a2 s3 a3 n2 l2 cG cS cJ1 cS2 cS3 cJ2 xo7 gg7 gr7 ce7 tr7 sh7 ar7 ti7 n17 l17 s27 a27 s37 a37 n27 l27 cG7 cS7 cJ17 cS27 cS37 cJ27 n m wd ct pa nm dp ki n m wd ct pa nm dp ki Hc Lc ∧ lv_has ls 13 [(6, .long (lN a6)), (5, .int z5), (4, .int r_1), (0, .ref b), (1, .ref xo), (2, .ref xo7), (3, .int (nI e9))] ∧ [.int z8] = st) ?_ ?_
    · clear hl hW hS hR
      rintro z8 H_5 locs_6 ls st h0
      obtain ⟨hW, hl, rfl⟩ := h0
      have hS := lws_S hW
      have hR : va_P D vwCl [] H_5 := q_R0
      refine lv_istore (lv' := [(8, .int z8), (6, .long (lN a6)), (5, .int z5), (4, .int r_1), (0, .ref b), (1, .ref xo), (2, .ref xo7), (3, .int (nI e9))]) hx hb dL_law_74 hl (by decide) rfl (fun ls hl => ?_)
      refine q_cutC 109 (cells + 1) (slots + 6) (fun (x : (Nat)) (Hc : Heap) (Lc : List Loc) (ls : Array Slot) (st : List Value) => match x with | a9 => (a9 < 2 ^ 64) ∧ LWS D s A xo gg gr ce tr sh ar ti n1 l1 s2 a2 s3 a3 n2 l2 cG cS cJ1 cS2 cS3 cJ2 xo7 gg7 gr7 ce7 tr7 sh7 ar7 ti7 n17 l17 s27 a27 s37 a37 n27 l27 cG7 cS7 cJ17 cS27 cS37 cJ27 n m wd ct pa nm dp ki n m wd ct pa nm dp ki Hc Lc ∧ lv_has ls 13 [(8, .int z8), (6, .long (lN a6)), (5, .int z5), (4, .int r_1), (0, .ref b), (1, .ref xo), (2, .ref xo7), (3, .int (nI e9))] ∧ [.long (lN a9)] = st) ?_ ?_
      · clear hl hW hS hR
        rintro a9 H_7 locs_8 ls st h0
        obtain ⟨ha9, hW, hl, rfl⟩ := h0
        have hS := lws_S hW
        have hR : va_P D vwCl [] H_7 := q_R0
        refine lv_lstore (lv' := [(9, .long (lN a9)), (8, .int z8), (6, .long (lN a6)), (5, .int z5), (4, .int r_1), (0, .ref b), (1, .ref xo), (2, .ref xo7), (3, .int (nI e9))]) hx hb dL_law_109 hl (by decide) rfl (fun ls hl => ?_)
        refine q_cutC 144 (cells + 1) (slots + 6) (fun (x : (Int32)) (Hc : Heap) (Lc : List Loc) (ls : Array Slot) (st : List Value) => match x with | x11 => LWS D s A xo gg gr ce tr sh ar ti n1 l1 s2 a2 s3 a3 n2 l2 cG cS cJ1 cS2 cS3 cJ2 xo7 gg7 gr7 ce7 tr7 sh7 ar7 ti7 n17 l17 s27 a27 s37 a37 n27 l27 cG7 cS7 cJ17 cS27 cS37 cJ27 n m wd ct pa nm dp ki n m wd ct pa nm dp ki Hc Lc ∧ lv_has ls 13 [(9, .long (lN a9)), (8, .int z8), (6, .long (lN a6)), (5, .int z5), (4, .int r_1), (0, .ref b), (1, .ref xo), (2, .ref xo7), (3, .int (nI e9))] ∧ [.int x11] = st) ?_ ?_
        · clear hl hW hS hR
          rintro x11 H_9 locs_10 ls st h0
          obtain ⟨hW, hl, rfl⟩ := h0
          have hS := lws_S hW
          have hR : va_P D vwCl [] H_9 := q_R0
          refine lv_istore (lv' := [(11, .int x11), (9, .long (lN a9)), (8, .int z8), (6, .long (lN a6)), (5, .int z5), (4, .int r_1), (0, .ref b), (1, .ref xo), (2, .ref xo7), (3, .int (nI e9))]) hx hb dL_law_144 hl (by decide) rfl (fun ls hl => ?_)
          refine q_cutC 204 (cells + 9) (slots + 66) (fun (x : Unit) (Hc : Heap) (Lc : List Loc) (ls : Array Slot) (st : List Value) => match x with | () => LWI D s A xo gg gr ce tr sh ar ti n1 l1 s2 a2 s3 a3 n2 l2 cG cS cJ1 cS2 cS3 cJ2 xo7 gg7 gr7 ce7 tr7 sh7 ar7 ti7 n17 l17 s27 a27 s37 a37 n27 l27 cG7 cS7 cJ17 cS27 cS37 cJ27 Hc Lc ∧ lv_has ls 13 [(4, .int r_1), (0, .ref b), (1, .ref xo), (2, .ref xo7), (3, .int (nI e9))] ∧ [] = st) ?_ ?_
          · clear hl hW hS hR
            rintro ⟨⟩ H_11 locs_12 ls st h0
            obtain ⟨⟨n, m, wd, ct, pa, nm, dp, ki, hI, hB, hW⟩, hl, rfl⟩ := h0
            have hS := lws_S hW
            have hR : va_P D vwCl [] H_11 := q_R0
            refine lv_aload_n hx hb dL_law_204 rfl (lv_at hl 2 rfl) ?_
            refine lv_aload_n hx hb dL_law_205 rfl (lv_at hl 3 rfl) ?_
            refine lw_alike hE hK hI hB hW hl.1 (by omega) (by omega) (fun H_13 locs_14 hW => ?_)
            have hS := lws_S hW
            have hR : va_P D vwCl [] H_13 := q_R0
            refine lv_if_ne (tgt := 214) hx hb dL_law_209 (by decide) (fun _ => ?_) (fun c9 => absurd c9 (by decide))
            refine lv_iload_n hx hb dL_law_214 rfl (lv_at hl 4 rfl) ?_
            refine lv_iconst (v := nI 5) hx hb dL_law_215 (by decide) ?_
            refine lv_irem hx hb dL_law_216 (by decide) ?_
            refine q_cvi (pk_rem (by omega) (by decide) (by decide)) ?_
            refine lv_iconst (v := nI 4) hx hb dL_law_217 (by decide) ?_
            refine q_icmp_ne (a := e9 % 5) (b := 4) (tgt := 254) hx hb dL_law_218 (by decide) (by omega) (by decide) (fun c_218 => ?_) (fun c_218 => ?_)
            · skip
              exact K _ _ _ _ _ ⟨n, m, wd, ct, pa, nm, dp, ki, hI, hB, hW⟩ (lv_sub hl [1, 2, 3, 4] rfl) (by omega) (by omega)
            · skip
              refine lv_aload_n hx hb dL_law_221 rfl (lv_at hl 2 rfl) ?_
              refine lw_so hE hKo hI hB hW hl.1 (by omega) (by omega) (fun H_15 locs_16 hW => ?_)
              have hS := lws_S hW
              have hR : va_P D vwCl [] H_15 := q_R0
              refine lv_if_eq (tgt := 252) hx hb dL_law_225 (by decide) (fun c9 => absurd c9 (by decide)) (fun _ => ?_)
              refine lv_aload_n hx hb dL_law_228 rfl (lv_at hl 2 rfl) ?_
              refine lv_iload hx hb dL_law_229 (lv_at hl 0 rfl) ?_
              refine lv_iconst (v := nI 2) hx hb dL_law_231 (by decide) ?_
              refine lv_ishr hx hb dL_law_232 ?_
              refine lv_iconst (v := nI 0) hx hb dL_law_233 (by decide) ?_
              refine vp_callSl (W.runS (As := [.int (r_1 >>> ((nI 2) &&& 31)), .int (nI 0)]) (rest := [.ref xo]) ⟨hx, hb, hml, hown, hts⟩ (c_L_word (l := l) (D := D) (v9 := r_1 >>> ((nI 2) &&& 31)) (z9 := nI 0) ) (va_cwS 2 hts gL_law_L_word rfl rfl rfl (by decide +kernel) ⟨Nat.le_of_ble_eq_true rfl, Nat.le_of_ble_eq_true rfl⟩) ⟨qP_blind, (qP_of (q_Pof (fun _ h => absurd h List.not_mem_nil)) hK0 hNw)⟩ rfl rfl hl.1 rfl (lv_room (Nat.le_of_ble_eq_true rfl)) dL_law_234 ⟨by show _ ≤ 1019453; omega, by show _ ≤ 6043265; omega⟩) (fun r_17 hr_17 => ?_)
              have hwf := hr_17
              obtain ⟨a8, ea8, hga8⟩ := hwf rfl
              refine q_cvl ea8 ?_
              refine lv_iload hx hb dL_law_237 (lv_at hl 0 rfl) ?_
              refine lv_bipush (v := nI 11) hx hb dL_law_239 (by decide) ?_
              refine lv_ishr hx hb dL_law_241 ?_
              refine lv_iconst (v := nI 4) hx hb dL_law_242 (by decide) ?_
              refine vp_callSi (W.runS (As := [.int (r_1 >>> ((nI 11) &&& 31)), .int (nI 4)]) (rest := [.long (lN a8), .ref xo]) ⟨hx, hb, hml, hown, hts⟩ (c_L_low (l := l) (D := D) (x9 := r_1 >>> ((nI 11) &&& 31)) (n := 4) (h0 := by decide) (hn := by decide)) (va_cwS 2 hts gL_law_L_low rfl rfl rfl (by decide +kernel) ⟨Nat.le_of_ble_eq_true rfl, Nat.le_of_ble_eq_true rfl⟩) ⟨qP_blind, (qP_of (q_Pof (fun _ h => absurd h List.not_mem_nil)) hK0 hNw)⟩ rfl rfl hl.1 rfl (lv_room (Nat.le_of_ble_eq_true rfl)) dL_law_243 ⟨by show _ ≤ 1019453; omega, by show _ ≤ 6043265; omega⟩) (fun r_18 hr_18 => ?_)
              subst hr_18
              obtain ⟨p5, hp5⟩ : ∃ z9 : Nat, z9 = lwv (r_1 >>> ((nI 11) &&& 31)) 4 := ⟨_, rfl⟩
              have hbp5 : p5 < 4 := by rw [hp5]; exact lwv_lt (by decide)
              refine q_cvi (show nI (lwv (r_1 >>> ((nI 11) &&& 31)) 4) = nI p5 by rw [hp5]) ?_
              refine lw_found hE hKo hI hB hW hga8 (by omega) hl.1 (by omega) (by omega) (fun H_19 locs_20 hW => ?_)
              have hS := lws_S hW
              have hR : va_P D vwCl [] H_19 := q_R0
              refine lv_if_ne (tgt := 254) hx hb dL_law_249 (by decide) (fun _ => ?_) (fun c9 => absurd c9 (by decide))
              exact K _ _ _ _ _ ⟨n, m, wd, ct, pa, nm, dp, ki, hI, hB, hW⟩ (lv_sub hl [1, 2, 3, 4] rfl) (by omega) (by omega)
          · intro hcut_204
            refine lv_iload hx hb dL_law_146 (lv_at hl 2 rfl) ?_
            refine lv_if_eq (tgt := 160) hx hb dL_law_148 (by decide) (fun c_148 => ?_) (fun c_148 => ?_)
            · skip
              have hz8 := c_148
              refine lv_aload_n hx hb dL_law_160 rfl (lv_at hl 7 rfl) ?_
              refine lv_lload hx hb dL_law_161 (lv_at hl 3 rfl) ?_
              refine lv_iload hx hb dL_law_163 (lv_at hl 0 rfl) ?_
              refine lw_add165 hE hKo hI hB hW ha6 hl.1 (by omega) (by omega) (fun r_21 H_22 locs_23 hcase => ?_)
              refine lv_istore (lv' := [(12, .int r_21), (11, .int x11), (9, .long (lN a9)), (8, .int z8), (6, .long (lN a6)), (5, .int z5), (4, .int r_1), (0, .ref b), (1, .ref xo), (2, .ref xo7), (3, .int (nI e9))]) hx hb dL_law_168 hl (by decide) rfl (fun ls hl => ?_)
              refine lv_iload hx hb dL_law_170 (lv_at hl 0 rfl) ?_
              refine lv_ldc (v := (-99999)) hx hb hown (hts (.constant RL 16 (-99999)) (List.mem_of_getElem? (i := 3) rfl)) dL_law_172 ?_
              refine lv_icmp_eq (tgt := 204) hx hb dL_law_174 (by decide) (fun c_174 => ?_) (fun c_174 => ?_)
              · skip
                have hW : LWS D s A xo gg gr ce tr sh ar ti n1 l1 s2 a2 s3 a3 n2 l2 cG cS cJ1 cS2 cS3 cJ2 xo7 gg7 gr7 ce7 tr7 sh7 ar7 ti7 n17 l17 s27 a27 s37 a37 n27 l27 cG7 cS7 cJ17 cS27 cS37 cJ27 n m wd ct pa nm dp ki n m wd ct pa nm dp ki H_22 locs_23 := by rcases hcase with ⟨_, _, h9⟩ | ⟨hok, nq, mq, wdq, ctq, paq, nmq, dpq, kiq, hAd, _⟩; exact h9; exact absurd c_174 (add_ne (add_v hok).2 hAd)
                exact hcut_204 () _ _ _ _ _ _ ⟨⟨n, m, wd, ct, pa, nm, dp, ki, hI, hB, hW⟩, (lv_sub hl [6, 7, 8, 9, 10] rfl), rfl⟩ (by omega) (by omega)
              · skip
                rcases hcase with ⟨e0, _⟩ | ⟨hok, nq, mq, wdq, ctq, paq, nmq, dpq, kiq, hAd, hW⟩
                · exact absurd e0 c_174
                refine lv_iload hx hb dL_law_177 (lv_at hl 3 rfl) ?_
                refine lv_if_eq (tgt := 191) hx hb dL_law_179 (by decide) (fun c_179 => ?_) (fun c_179 => False.elim (by exact c_179 hz8))
                refine lv_aload_n hx hb dL_law_191 rfl (lv_at hl 9 rfl) ?_
                refine lv_lload hx hb dL_law_192 (lv_at hl 4 rfl) ?_
                refine lv_iload hx hb dL_law_194 (lv_at hl 1 rfl) ?_
                refine lw_add196 hE hK7 hI hB (lws_sw hW) ha6 hl.1 (by omega) (by omega) (fun r_24 H_25 locs_26 hcas7 => ?_)
                rcases hcas7 with ⟨_, hth, _⟩ | ⟨_, n7, m7, wd7, ct7, pa7, nm7, dp7, ki7, hAd7, hW⟩
                · exact (hth.elim (fun h9 => h9 hok) (fun h9 => add_no hAd h9.2)).elim
                obtain ⟨e1, e2, e3, e4, e5, e6, e7, e8, e9r⟩ := add_uniq hAd hAd7
                rw [e1, e2, e3, e4, e5, e6, e7, e8] at hW
                have hW := lws_sw hW
                have hIq := add_inv hI hB hok.1 (add_v hok) hAd
                refine lv_iload hx hb dL_law_199 (lv_at hl 0 rfl) ?_
                refine lv_icmp_ne (tgt := 212) hx hb dL_law_201 (by decide) (fun c_201 => False.elim (by exact c_201 e9r)) (fun c_201 => ?_)
                exact hcut_204 () _ _ _ _ _ _ ⟨⟨nq, mq, wdq, ctq, paq, nmq, dpq, kiq, hIq.1, hIq.2, hW⟩, (lv_sub hl [6, 7, 8, 9, 10] rfl), rfl⟩ (by omega) (by omega)
            · skip
              have hz8 := c_148
              refine lv_aload_n hx hb dL_law_151 rfl (lv_at hl 7 rfl) ?_
              refine lv_lload hx hb dL_law_152 (lv_at hl 1 rfl) ?_
              refine lw_fgt154 hE hKo hI hB hW ha9 hl.1 (by omega) (by omega) (fun r_27 H_28 locs_29 hcase => ?_)
              refine lv_goto (tgt := 168) hx hb dL_law_157 (by decide) ?_
              refine lv_istore (lv' := [(12, .int r_27), (11, .int x11), (9, .long (lN a9)), (8, .int z8), (6, .long (lN a6)), (5, .int z5), (4, .int r_1), (0, .ref b), (1, .ref xo), (2, .ref xo7), (3, .int (nI e9))]) hx hb dL_law_168 hl (by decide) rfl (fun ls hl => ?_)
              refine lv_iload hx hb dL_law_170 (lv_at hl 0 rfl) ?_
              refine lv_ldc (v := (-99999)) hx hb hown (hts (.constant RL 16 (-99999)) (List.mem_of_getElem? (i := 3) rfl)) dL_law_172 ?_
              refine lv_icmp_eq (tgt := 204) hx hb dL_law_174 (by decide) (fun c_174 => ?_) (fun c_174 => ?_)
              · skip
                have hW : LWS D s A xo gg gr ce tr sh ar ti n1 l1 s2 a2 s3 a3 n2 l2 cG cS cJ1 cS2 cS3 cJ2 xo7 gg7 gr7 ce7 tr7 sh7 ar7 ti7 n17 l17 s27 a27 s37 a37 n27 l27 cG7 cS7 cJ17 cS27 cS37 cJ27 n m wd ct pa nm dp ki n m wd ct pa nm dp ki H_28 locs_29 := by rcases hcase with ⟨_, _, h9⟩ | ⟨hok, mq, ctq, kiq, hAd, _⟩; exact h9; exact absurd c_174 (fgt_ne hI hAd)
                exact hcut_204 () _ _ _ _ _ _ ⟨⟨n, m, wd, ct, pa, nm, dp, ki, hI, hB, hW⟩, (lv_sub hl [6, 7, 8, 9, 10] rfl), rfl⟩ (by omega) (by omega)
              · skip
                rcases hcase with ⟨e0, _⟩ | ⟨hok, mq, ctq, kiq, hAd, hW⟩
                · exact absurd e0 c_174
                refine lv_iload hx hb dL_law_177 (lv_at hl 3 rfl) ?_
                refine lv_if_eq (tgt := 191) hx hb dL_law_179 (by decide) (fun c_179 => False.elim (by exact hz8 c_179)) (fun c_179 => ?_)
                refine lv_aload_n hx hb dL_law_182 rfl (lv_at hl 9 rfl) ?_
                refine lv_lload hx hb dL_law_183 (lv_at hl 2 rfl) ?_
                refine lw_fgt185 hE hK7 hI hB (lws_sw hW) ha9 hl.1 (by omega) (by omega) (fun r_30 H_31 locs_32 hcas7 => ?_)
                rcases hcas7 with ⟨_, hth, _⟩ | ⟨_, m7, ct7, ki7, hAd7, hW⟩
                · exact (hth.elim (fun h9 => h9 hok) (fun h9 => fgt_no hAd h9.2)).elim
                obtain ⟨e2, e4, e8, e9r⟩ := fgt_uniq hI hAd hAd7
                rw [e2, e4, e8] at hW
                have hW := lws_sw hW
                have hIq := fgt_inv hI hAd
                refine lv_goto (tgt := 199) hx hb dL_law_188 (by decide) ?_
                refine lv_iload hx hb dL_law_199 (lv_at hl 0 rfl) ?_
                refine lv_icmp_ne (tgt := 212) hx hb dL_law_201 (by decide) (fun c_201 => False.elim (by exact c_201 e9r)) (fun c_201 => ?_)
                exact hcut_204 () _ _ _ _ _ _ ⟨⟨n, mq, wd, ctq, pa, nm, dp, kiq, hIq, hB, hW⟩, (lv_sub hl [6, 7, 8, 9, 10] rfl), rfl⟩ (by omega) (by omega)
        · intro hcut_144
          refine lv_iload hx hb dL_law_111 (lv_at hl 3 rfl) ?_
          refine lv_if_eq (tgt := 133) hx hb dL_law_113 (by decide) (fun c_113 => ?_) (fun c_113 => ?_)
          · skip
            refine lv_iconst (v := nI 1) hx hb dL_law_133 (by decide) ?_
            refine lv_iload hx hb dL_law_134 (lv_at hl 4 rfl) ?_
            refine lv_bipush (v := nI 9) hx hb dL_law_136 (by decide) ?_
            refine lv_ishr hx hb dL_law_138 ?_
            refine lv_iconst (v := nI 4) hx hb dL_law_139 (by decide) ?_
            refine vp_callSi (W.runS (As := [.int (r_1 >>> ((nI 9) &&& 31)), .int (nI 4)]) (rest := [.int (nI 1)]) ⟨hx, hb, hml, hown, hts⟩ (c_L_low (l := l) (D := D) (x9 := r_1 >>> ((nI 9) &&& 31)) (n := 4) (h0 := by decide) (hn := by decide)) (va_cwS 2 hts gL_law_L_low rfl rfl rfl (by decide +kernel) ⟨Nat.le_of_ble_eq_true rfl, Nat.le_of_ble_eq_true rfl⟩) ⟨qP_blind, (qP_of (q_Pof (fun _ h => absurd h List.not_mem_nil)) hK0 hNw)⟩ rfl rfl hl.1 rfl (lv_room (Nat.le_of_ble_eq_true rfl)) dL_law_140 ⟨by show _ ≤ 1019453; omega, by show _ ≤ 6043265; omega⟩) (fun r_33 hr_33 => ?_)
            subst hr_33
            obtain ⟨p4, hp4⟩ : ∃ z9 : Nat, z9 = lwv (r_1 >>> ((nI 9) &&& 31)) 4 := ⟨_, rfl⟩
            have hbp4 : p4 < 4 := by rw [hp4]; exact lwv_lt (by decide)
            refine q_cvi (show nI (lwv (r_1 >>> ((nI 9) &&& 31)) 4) = nI p4 by rw [hp4]) ?_
            refine q_iadd (d := p4 + 1) hx hb dL_law_143 (by omega) ?_
            exact hcut_144 (nI (p4 + 1)) _ _ _ _ _ _ ⟨hW, (lv_sub hl [0, 1, 2, 3, 4, 5, 6, 7, 8] rfl), rfl⟩ (by omega) (by omega)
          · skip
            refine lv_iload hx hb dL_law_116 (lv_at hl 4 rfl) ?_
            refine lv_bipush (v := nI 9) hx hb dL_law_118 (by decide) ?_
            refine lv_ishr hx hb dL_law_120 ?_
            refine lv_sipush (v := nI 1100) hx hb dL_law_121 (by decide) ?_
            refine vp_callSi (W.runS (As := [.int (r_1 >>> ((nI 9) &&& 31)), .int (nI 1100)]) (rest := []) ⟨hx, hb, hml, hown, hts⟩ (c_L_low (l := l) (D := D) (x9 := r_1 >>> ((nI 9) &&& 31)) (n := 1100) (h0 := by decide) (hn := by decide)) (va_cwS 2 hts gL_law_L_low rfl rfl rfl (by decide +kernel) ⟨Nat.le_of_ble_eq_true rfl, Nat.le_of_ble_eq_true rfl⟩) ⟨qP_blind, (qP_of (q_Pof (fun _ h => absurd h List.not_mem_nil)) hK0 hNw)⟩ rfl rfl hl.1 rfl (lv_room (Nat.le_of_ble_eq_true rfl)) dL_law_124 ⟨by show _ ≤ 1019453; omega, by show _ ≤ 6043265; omega⟩) (fun r_34 hr_34 => ?_)
            subst hr_34
            obtain ⟨p3, hp3⟩ : ∃ z9 : Nat, z9 = lwv (r_1 >>> ((nI 9) &&& 31)) 1100 := ⟨_, rfl⟩
            have hbp3 : p3 < 1100 := by rw [hp3]; exact lwv_lt (by decide)
            refine q_cvi (show nI (lwv (r_1 >>> ((nI 9) &&& 31)) 1100) = nI p3 by rw [hp3]) ?_
            refine lv_bipush (v := nI 20) hx hb dL_law_127 (by decide) ?_
            refine lv_isub hx hb dL_law_129 ?_
            refine lv_goto (tgt := 144) hx hb dL_law_130 (by decide) ?_
            exact hcut_144 ((nI p3) - (nI 20)) _ _ _ _ _ _ ⟨hW, (lv_sub hl [0, 1, 2, 3, 4, 5, 6, 7, 8] rfl), rfl⟩ (by omega) (by omega)
      · intro hcut_109
        refine lv_aload_n hx hb dL_law_76 rfl (lv_at hl 5 rfl) ?_
        refine lw_words77 hE hKo hW hl.1 (by omega) (by omega) ?_
        refine q_if_le (a := m) (tgt := 107) hx hb dL_law_80 (by decide) (by have := hm40; omega) (fun c_80 => ?_) (fun c_80 => ?_)
        · skip
          refine lv_lload hx hb dL_law_107 (lv_at hl 1 rfl) ?_
          exact hcut_109 a6 _ _ _ _ _ _ ⟨ha6, hW, (lv_sub hl [0, 1, 2, 3, 4, 5, 6, 7] rfl), rfl⟩ (by omega) (by omega)
        · skip
          refine lv_iload hx hb dL_law_83 (lv_at hl 2 rfl) ?_
          refine lv_if_ne (tgt := 107) hx hb dL_law_85 (by decide) (fun c_85 => ?_) (fun c_85 => ?_)
          · skip
            refine lv_lload hx hb dL_law_107 (lv_at hl 1 rfl) ?_
            exact hcut_109 a6 _ _ _ _ _ _ ⟨ha6, hW, (lv_sub hl [0, 1, 2, 3, 4, 5, 6, 7] rfl), rfl⟩ (by omega) (by omega)
          · skip
            refine lv_aload_n hx hb dL_law_88 rfl (lv_at hl 5 rfl) ?_
            refine lv_iload hx hb dL_law_89 (lv_at hl 3 rfl) ?_
            refine lv_bipush (v := nI 7) hx hb dL_law_91 (by decide) ?_
            refine lv_ishr hx hb dL_law_93 ?_
            refine lv_aload_n hx hb dL_law_94 rfl (lv_at hl 5 rfl) ?_
            refine lw_words95 hE hKo hW hl.1 (by omega) (by omega) ?_
            refine vp_callSi (W.runS (As := [.int (r_1 >>> ((nI 7) &&& 31)), .int (nI m)]) (rest := [.ref xo]) ⟨hx, hb, hml, hown, hts⟩ (c_L_low (l := l) (D := D) (x9 := r_1 >>> ((nI 7) &&& 31)) (n := m) (h0 := by omega) (hn := by have := hm40; omega)) (va_cwS 2 hts gL_law_L_low rfl rfl rfl (by decide +kernel) ⟨Nat.le_of_ble_eq_true rfl, Nat.le_of_ble_eq_true rfl⟩) ⟨qP_blind, (qP_of (q_Pof (fun _ h => absurd h List.not_mem_nil)) hK0 hNw)⟩ rfl rfl hl.1 rfl (lv_room (Nat.le_of_ble_eq_true rfl)) dL_law_98 ⟨by show _ ≤ 1019453; omega, by show _ ≤ 6043265; omega⟩) (fun r_35 hr_35 => ?_)
            subst hr_35
            obtain ⟨k9, hk9⟩ : ∃ z9 : Nat, z9 = lwv (r_1 >>> ((nI 7) &&& 31)) m := ⟨_, rfl⟩
            have hbk9 : k9 < m := by rw [hk9]; exact lwv_lt (by omega)
            refine q_cvi (show nI (lwv (r_1 >>> ((nI 7) &&& 31)) m) = nI k9 by rw [hk9]) ?_
            refine lw_wat (k := k9) hE hKo hI hB hW hbk9 hl.1 (by omega) (by omega) (fun H_36 locs_37 hW => ?_)
            have hS := lws_S hW
            have hR : va_P D vwCl [] H_36 := q_R0
            have hgk := hI.2.1 _ ((hI.2.2.2.2.2.2.2.2.2.1).1 k9 hbk9).1
            have hwk : wd (ki k9) < 2 ^ 64 := by have := gw_lt hgk; omega
            refine lv_goto (tgt := 109) hx hb dL_law_104 (by decide) ?_
            exact hcut_109 (wd (ki k9)) _ _ _ _ _ _ ⟨hwk, hW, (lv_sub hl [0, 1, 2, 3, 4, 5, 6, 7] rfl), rfl⟩ (by omega) (by omega)
    · intro hcut_74
      refine lv_iload hx hb dL_law_60 (lv_at hl 2 rfl) ?_
      refine lv_iconst (v := nI 5) hx hb dL_law_62 (by decide) ?_
      refine vp_callSi (W.runS (As := [.int r_1, .int (nI 5)]) (rest := []) ⟨hx, hb, hml, hown, hts⟩ (c_L_low (l := l) (D := D) (x9 := r_1) (n := 5) (h0 := by decide) (hn := by decide)) (va_cwS 2 hts gL_law_L_low rfl rfl rfl (by decide +kernel) ⟨Nat.le_of_ble_eq_true rfl, Nat.le_of_ble_eq_true rfl⟩) ⟨qP_blind, (qP_of (q_Pof (fun _ h => absurd h List.not_mem_nil)) hK0 hNw)⟩ rfl rfl hl.1 rfl (lv_room (Nat.le_of_ble_eq_true rfl)) dL_law_63 ⟨by show _ ≤ 1019453; omega, by show _ ≤ 6043265; omega⟩) (fun r_38 hr_38 => ?_)
      subst hr_38
      obtain ⟨p2, hp2⟩ : ∃ z9 : Nat, z9 = lwv r_1 5 := ⟨_, rfl⟩
      have hbp2 : p2 < 5 := by rw [hp2]; exact lwv_lt (by decide)
      refine q_cvi (show nI (lwv r_1 5) = nI p2 by rw [hp2]) ?_
      refine q_if_ne (a := p2) (tgt := 73) hx hb dL_law_66 (by decide) (by omega) (fun c_66 => ?_) (fun c_66 => ?_)
      · skip
        refine lv_iconst (v := nI 0) hx hb dL_law_73 (by decide) ?_
        exact hcut_74 (nI 0) _ _ _ _ _ _ ⟨hW, (lv_sub hl [0, 1, 2, 3, 4, 5, 6] rfl), rfl⟩ (by omega) (by omega)
      · skip
        refine lv_iconst (v := nI 1) hx hb dL_law_69 (by decide) ?_
        refine lv_goto (tgt := 74) hx hb dL_law_70 (by decide) ?_
        exact hcut_74 (nI 1) _ _ _ _ _ _ ⟨hW, (lv_sub hl [0, 1, 2, 3, 4, 5, 6] rfl), rfl⟩ (by omega) (by omega)
  · intro hcut_49
    refine lv_iload hx hb dL_law_31 (lv_at hl 0 rfl) ?_
    refine lv_bipush (v := nI 25) hx hb dL_law_33 (by decide) ?_
    refine lv_ishr hx hb dL_law_35 ?_
    refine lv_bipush (v := nI 6) hx hb dL_law_36 (by decide) ?_
    refine vp_callSi (W.runS (As := [.int (r_1 >>> ((nI 25) &&& 31)), .int (nI 6)]) (rest := []) ⟨hx, hb, hml, hown, hts⟩ (c_L_low (l := l) (D := D) (x9 := r_1 >>> ((nI 25) &&& 31)) (n := 6) (h0 := by decide) (hn := by decide)) (va_cwS 2 hts gL_law_L_low rfl rfl rfl (by decide +kernel) ⟨Nat.le_of_ble_eq_true rfl, Nat.le_of_ble_eq_true rfl⟩) ⟨qP_blind, (qP_of (q_Pof (fun _ h => absurd h List.not_mem_nil)) hK0 hNw)⟩ rfl rfl hl.1 rfl (lv_room (Nat.le_of_ble_eq_true rfl)) dL_law_38 ⟨by show _ ≤ 1019453; omega, by show _ ≤ 6043265; omega⟩) (fun r_39 hr_39 => ?_)
    subst hr_39
    obtain ⟨p1, hp1⟩ : ∃ z9 : Nat, z9 = lwv (r_1 >>> ((nI 25) &&& 31)) 6 := ⟨_, rfl⟩
    have hbp1 : p1 < 6 := by rw [hp1]; exact lwv_lt (by decide)
    refine q_cvi (show nI (lwv (r_1 >>> ((nI 25) &&& 31)) 6) = nI p1 by rw [hp1]) ?_
    refine q_if_ne (a := p1) (tgt := 48) hx hb dL_law_41 (by decide) (by omega) (fun c_41 => ?_) (fun c_41 => ?_)
    · skip
      refine lv_iconst (v := nI 0) hx hb dL_law_48 (by decide) ?_
      exact hcut_49 (nI 0) _ _ _ _ _ _ ⟨hW, (lv_sub hl [0, 1, 2, 3, 4] rfl), rfl⟩ (by omega) (by omega)
    · skip
      refine lv_iconst (v := nI 1) hx hb dL_law_44 (by decide) ?_
      refine lv_goto (tgt := 49) hx hb dL_law_45 (by decide) ?_
      exact hcut_49 (nI 1) _ _ _ _ _ _ ⟨hW, (lv_sub hl [0, 1, 2, 3, 4] rfl), rfl⟩ (by omega) (by omega)

set_option maxHeartbeats 4000000 in
set_option maxRecDepth 100000 in
theorem lw_loop {p : Program} {l : Launch} {e : Env} {s : State} {mi9 : MethodId} {belowM : List Frame} {methM : Method} {cM : Code} {Q : State → Prop} {D : va_G} {A : Nat → Prop} {b L : Nat} {xs : Nat → Int32} {xo gg gr ce tr sh ar ti n1 l1 s2 a2 s3 a3 n2 l2 : Nat} {cG cS cJ1 cS2 cS3 cJ2 : ClassId} {xo7 gg7 gr7 ce7 tr7 sh7 ar7 ti7 n17 l17 s27 a27 s37 a37 n27 l27 : Nat} {cG7 cS7 cJ17 cS27 cS37 cJ27 : ClassId} (hE : LWE p l s mi9 cM D A b L xs [(cG, .int), (cS, .object "FuzzyFens$Entry"), (cJ1, .long), (cS2, .object "FuzzyFens$Entry"), (cS3, .object "FuzzyFens$Entry"), (cJ2, .long), (cG7, .int), (cS7, .object "FuzzyFens$Entry"), (cJ17, .long), (cS27, .object "FuzzyFens$Entry"), (cS37, .object "FuzzyFens$Entry"), (cJ27, .long)]) (hend : ∀ (H : Heap) (locs : List Loc) (ls : Array Slot) (cells slots : Nat), va_S A s.heap H locs → cells ≤ 1019453 → slots ≤ 6043265 → W p l e room_1 s mi9 #[Value.ref b] belowM methM cM H locs cells slots Q (F0 mi9 260 ls [])) :
    ∀ (k e9 : Nat) (H : Heap) (locs : List Loc) (ls : Array Slot) (cells slots : Nat), e9 + k = 50 → LWI D s A xo gg gr ce tr sh ar ti n1 l1 s2 a2 s3 a3 n2 l2 cG cS cJ1 cS2 cS3 cJ2 xo7 gg7 gr7 ce7 tr7 sh7 ar7 ti7 n17 l17 s27 a27 s37 a37 n27 l27 cG7 cS7 cJ17 cS27 cS37 cJ27 H locs → lv_has ls 13 [(0, .ref b), (1, .ref xo), (2, .ref xo7), (3, .int (nI e9))] → cells + 2500 * k ≤ 1019453 → slots + 15000 * k ≤ 6043265 → W p l e room_1 s mi9 #[Value.ref b] belowM methM cM H locs cells slots Q (F0 mi9 18 ls []) := by
  obtain ⟨hx, hb, hml, hown, hts, hX, hbl, hbA, hA, hK, hNw, hZ, hXt, hst, hL⟩ := id hE
  intro k
  induction k with
  | zero =>
    intro e9 H locs ls cells slots hk hWI hl hc hs
    obtain ⟨n, m, wd, ct, pa, nm, dp, ki, hI, hB, hW⟩ := hWI
    refine lv_iload_n hx hb dL_law_18 rfl (lv_at hl 3 rfl) ?_
    refine lv_bipush (v := nI 50) hx hb dL_law_19 (by decide) ?_
    refine q_icmp_ge (a := e9) (b := 50) (tgt := 260) hx hb dL_law_21 (by decide) (by omega) (by decide) (fun _ => ?_) (fun c9 => absurd c9 (by omega))
    exact hend _ _ _ _ _ (lws_S hW) (by omega) (by omega)
  | succ k ih =>
    intro e9 H locs ls cells slots hk hWI hl hc hs
    refine lv_iload_n hx hb dL_law_18 rfl (lv_at hl 3 rfl) ?_
    refine lv_bipush (v := nI 50) hx hb dL_law_19 (by decide) ?_
    refine q_icmp_ge (a := e9) (b := 50) (tgt := 260) hx hb dL_law_21 (by decide) (by omega) (by decide) (fun c9 => absurd c9 (by omega)) (fun _ => ?_)
    refine lw_body hE (by omega) hWI hl (by omega) (by omega) (fun H2 locs2 ls2 c92 s92 hW2 hl2 hc2 hs2 => ?_)
    refine lv_iinc (v := nI (e9 + 1)) (lv' := [(3, .int (nI (e9 + 1))), (0, .ref b), (1, .ref xo), (2, .ref xo7)]) hx hb dL_law_254 hl2 (k := 3) rfl (q_inc (k := 1) (by omega)) (by decide) rfl (fun ls hl => ?_)
    refine lv_goto (tgt := 18) hx hb dL_law_257 (by decide) ?_
    exact ih (e9 + 1) H2 locs2 ls c92 s92 (by omega) hW2 (lv_sub hl [1, 2, 3, 0] rfl) (by omega) (by omega)
