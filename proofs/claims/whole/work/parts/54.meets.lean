set_option maxRecDepth 20000 in
theorem iX10_meets_X10 : ∀ w ∈ wsX100, w ∈ wsX10_meets := by decide +kernel
set_option maxHeartbeats 4000000 in
set_option maxRecDepth 100000 in
/-- meets -/
theorem c_X10_meets (l : Launch) (D : va_G) (sz : Nat) (mo : Nat) (mw : Nat) (mct : Nat) (mp : Nat) (mnm : Nat) (m1 : Nat) (m2 : Nat) (mt : Nat) (mk : Nat) (mr : Nat) (ml : Nat) (mq : Nat) (k1 : ClassId) (k10 : ClassId) (k11 : ClassId) (th : Int32) (n : Nat) (om : Int32) (tm : Int32) (wd : Nat → Nat) (fl : Nat → Int64) (fq : Nat → Int64) (R : List Nat) (i : Nat) (k : Nat) (hnd : ([ml] ++ [mo, mw, mq]).Nodup) (hi4 : i < 40) (hga : gw (wd i)) (hk3 : k ≤ 3) (hQ : ∀ j, j < List.length R → fq j = lN (List.getD R j 0)) (hQb : ∀ j, j < List.length R → List.getD R j 0 < 2 ^ 50) (hQl : List.length R ≤ 56) : Met l yX10_meets wsX10_meets { frames := 4, cells := 0, slots := 0, locals := 107 } (va_Pc [.ref mo, .int (nI i), .int (nI k), .int (nI (List.length R))] (qW D sz ([(mo, .inr (9, [.int th, .int (nI n), .ref mw, .ref mct, .ref mp, .ref mnm, .ref m1, .ref m2, .int om, .int tm, .ref mt, .ref mk, .ref mr, .ref ml, .ref mq])), (mw, .inl (k1, 40, .inr (.inl (fun k9 => lN (wd k9))))), (mq, .inl (k11, 64, .inr (.inl fq)))]) [(ml, .inl (k10, 64, .inr (.inl fl)))] [(k10, .long), (k1, .long), (k11, .long)])) (va_Qi (fun (rv : Int32) (uv : (Nat → Int64)) => rv = (if (∃ x ∈ R, x ∈ nbl k (wd i)) then 1 else 0) ∧ ∀ j, j < List.length (nbl k (wd i)) → uv j = lN (List.getD (nbl k (wd i)) j 0)) (fun (uv : (Nat → Int64)) (tv : State) => va_P D vwCl [(ml, .inl (k10, 64, .inr (.inl uv)))] tv.heap) (va_A [(ml, .inl (k10, 64, .inr (.inl fl)))] sz)) 0 0 (va_A [(ml, .inl (k10, 64, .inr (.inl fl)))] sz) := by
  refine Met.ofW (cc := cX10_meets) (maxL := 7) (ret := (some .boolean)) (by decide) rfl ?_
  intro pM eM s mi9 argsM belowM methM cM sM B hml hv
  obtain ⟨rfl, hsz, hR0, hP, hK, hNw⟩ := hv
  have hx := B.exec
  have hb := B.bytes
  have hr := B.returns
  have hts := atoms_spec (ws := wsX10_meets) B.pre
  have hown : s.vm.findClass RX10 = some mi9.cls := findClass_of_methodNamed B.named
  have hlocks := B.notSynchronized
  subst hsz
  have hna := q_na (RW := [(ml, .inl (k10, 64, .inr (.inl fl)))]) (RO := [(mo, .inr (9, [.int th, .int (nI n), .ref mw, .ref mct, .ref mp, .ref mnm, .ref m1, .ref m2, .int om, .int tm, .ref mt, .ref mk, .ref mr, .ref ml, .ref mq])), (mw, .inl (k1, 40, .inr (.inl (fun k9 => lN (wd k9))))), (mq, .inl (k11, 64, .inr (.inl fq)))]) hnd rfl rfl hR0
  have hD := q_D (RW := [(ml, .inl (k10, 64, .inr (.inl fl)))]) (sz := s.heap.size) hnd rfl
  have hA : ∀ q : Nat, s.heap.size ≤ q → va_A [(ml, .inl (k10, 64, .inr (.inl fl)))] s.heap.size q := fun q h => Or.inr h
  generalize hAe : va_A [(ml, .inl (k10, 64, .inr (.inl fl)))] s.heap.size = A at hna hD hA ⊢
  have hS : va_S A s.heap s.heap [] := va_S.rf
  have hR := hR0
  have hP : va_P D vwCl [(ml, .inl (k10, 64, .inr (.inl fl)))] s.heap := hP
  have hl := lv_entry ([.ref mo, .int (nI i), .int (nI k), .int (nI (List.length R))]) (n := 7) (Nat.le_of_ble_eq_true rfl)
  rw [lg_entry_eq]
  generalize (lg_sl ([.ref mo, .int (nI i), .int (nI k), .int (nI (List.length R))]) ++ List.replicate (7 - (lg_sl ([.ref mo, .int (nI i), .int (nI k), .int (nI (List.length R))])).length) Slot.unset).toArray = ls at hl ⊢
  have hl : lv_has ls 7 [(0, .ref mo), (1, .int (nI i)), (2, .int (nI k)), (3, .int (nI (List.length R)))] := hl
  have hwa := gw_wl hga
  have hla := gw_lt hga
  have hn56 : List.length (nbl k (wd i)) ≤ 56 := q_lpl_56 hwa (by split <;> omega)
  refine lv_aload_n hx hb dX10_meets_0 rfl (lv_at hl 0 rfl) ?_
  refine lv_aload_n hx hb dX10_meets_1 rfl (lv_at hl 0 rfl) ?_
  refine va_get (D := D) (own := RX10) (ref := "FuzzyFensModel") (ci := 9) (v := .ref mw) (C := RX10) (T := TX10) (N := 15) hx hb hts iX10_meets_X10 hown hK hR 0 rfl rfl 2 (by decide) (hts (.fieldLink RX10 7 "FuzzyFensModel" "words" "[J") (List.mem_of_getElem? (i := 1) rfl)) (fun _ h9 => h9) rfl dX10_meets_2 ?_
  refine lv_iload_n hx hb dX10_meets_5 rfl (lv_at hl 1 rfl) ?_
  refine va_lald (D := D) hx hb hK hR 1 1 rfl rfl (vp_in_nI (n := i) (N := 40) (by omega) (by decide)) dX10_meets_6 ?_
  rw [nI_clamp (n := i) (by omega)]
  refine q_cvl (show (fun k9 => lN (wd k9)) i = lN (wd i) from rfl) ?_
  refine lv_iload_n hx hb dX10_meets_7 rfl (lv_at hl 2 rfl) ?_
  have hF := va_free (wc := [(ml, .inl (k10, 64, .inr (.inl fl)))]) hD hS hA [0] rfl
  refine va_calli (va_runV (As := [.long (lN (wd i)), .int (nI k)]) (rest := []) ⟨hx, hb, hml, hown, hts⟩ (c_X10_layLeft (l := l) (D := D) (mo := mo) (mw := mw) (mct := mct) (mp := mp) (mnm := mnm) (m1 := m1) (m2 := m2) (mt := mt) (mk := mk) (mr := mr) (ml := ml) (mq := mq) (k10 := k10) (th := th) (n := n) (om := om) (tm := tm) (fl := fl) (a := wd i) (k := k) (sz := s.heap.size) (hnd := (q_nds hnd [0, 1] rfl rfl)) (hga := hga) (hk3 := hk3)) (cwV 2 hts gX10_meets_X10_layLeft rfl rfl rfl (by decide +kernel) ⟨Nat.le_of_ble_eq_true rfl, Nat.le_of_ble_eq_true rfl⟩) ⟨qW_blind, (va_recv hK hR (ci := 9) (q0 := 0) rfl rfl), (qW_of (hR.sub (ws' := [(mo, .inr (9, [.int th, .int (nI n), .ref mw, .ref mct, .ref mp, .ref mnm, .ref m1, .ref m2, .int om, .int tm, .ref mt, .ref mk, .ref mr, .ref ml, .ref mq]))]) [0] rfl) (hP.sub (ws' := [(ml, .inl (k10, 64, .inr (.inl fl)))]) [0] rfl) (hK.sub (tys' := [(k10, .long)]) [0] rfl) hNw)⟩ rfl rfl hl.1 rfl (lv_room (Nat.le_of_ble_eq_true rfl)) dX10_meets_8 ⟨Nat.le_of_ble_eq_true rfl, Nat.le_of_ble_eq_true rfl⟩) hS (fun q _ h => hF q h) hF (fun r_1 u_5 t_4 H_2 locs_3 ht hvm hr_1 hB hz1 hk1 hS => ?_)
  obtain ⟨s5, rfl⟩ : ∃ z, z = u_5 := ⟨_, rfl⟩
  replace hB : va_P D vwCl [(ml, .inl (k10, 64, .inr (.inl s5)))] H_2 := by rw [← ht]; exact hB
  obtain ⟨hP, hD⟩ := q_join (wc := [(ml, .inl (k10, 64, .inr (.inl fl)))]) (w1 := [(ml, .inl (k10, 64, .inr (.inl s5)))]) (ws' := [(ml, .inl (k10, 64, .inr (.inl s5)))]) [0] hP hD rfl rfl hk1 hB rfl
  have hR := q_ro hR0 hna hS
  obtain ⟨rfl, hcts⟩ := hr_1
  refine lv_istore (lv' := [(4, .int (nI (List.length (nbl k (wd i))))), (0, .ref mo), (1, .int (nI i)), (2, .int (nI k)), (3, .int (nI (List.length R)))]) hx hb dX10_meets_11 hl (by decide) rfl (fun ls hl => ?_)
  refine lv_iconst (v := nI 0) hx hb dX10_meets_13 (by decide) ?_
  refine lv_istore (lv' := [(5, .int (nI 0)), (4, .int (nI (List.length (nbl k (wd i))))), (0, .ref mo), (1, .int (nI i)), (2, .int (nI k)), (3, .int (nI (List.length R)))]) hx hb dX10_meets_14 hl (by decide) rfl (fun ls hl => ?_)
  refine lv_iconst (v := nI 0) hx hb dX10_meets_16 (by decide) ?_
  refine lv_istore (lv' := [(6, .int (nI 0)), (5, .int (nI 0)), (4, .int (nI (List.length (nbl k (wd i))))), (0, .ref mo), (1, .int (nI i)), (2, .int (nI k)), (3, .int (nI (List.length R)))]) hx hb dX10_meets_17 hl (by decide) rfl (fun ls hl => ?_)
  refine q_loop (fun (x : (Nat) × (Nat)) (Hc : Heap) (Lc : List Loc) (ls : Array Slot) => match x with | (j, b) => (j ≤ List.length R) ∧ (b ≤ 1) ∧ (b = 1 ↔ ∃ j9, j9 < j ∧ List.getD R j9 0 ∈ nbl k (wd i)) ∧ H_2 = Hc ∧ locs_3 = Lc ∧ lv_has ls 7 [(6, .int (nI j)), (5, .int (nI b)), (4, .int (nI (List.length (nbl k (wd i))))), (0, .ref mo), (1, .int (nI i)), (2, .int (nI k)), (3, .int (nI (List.length R)))]) (fun (x : (Nat) × (Nat)) => match x with | (j, b) => List.length R - j) (0, 0) ⟨(by omega), (by omega), ⟨fun h9 => by omega, fun ⟨j9, q1, _⟩ => by omega⟩, rfl, rfl, (lv_sub hl [0, 1, 2, 3, 4, 5, 6] rfl)⟩ ?_
  clear hl
  rintro ⟨j, b⟩ Hc Lc ls hI ih_19
  obtain ⟨hj, hb1, hbv, rfl, rfl, hl⟩ := hI
  refine lv_iload hx hb dX10_meets_19 (lv_at hl 0 rfl) ?_
  refine lv_iload_n hx hb dX10_meets_21 rfl (lv_at hl 6 rfl) ?_
  refine q_icmp_ge (a := j) (b := List.length R) (tgt := 59) hx hb dX10_meets_22 (by decide) (by omega) (by omega) (fun c_22 => ?_) (fun c_22 => ?_)
  · skip
    refine lv_iload hx hb dX10_meets_59 (lv_at hl 1 rfl) ?_
    have hbi : b = 1 ↔ ∃ x ∈ R, x ∈ nbl k (wd i) := by
      rw [hbv, show j = List.length R by omega]
      exact ⟨fun ⟨j9, q1, q2⟩ => ⟨_, q_mem.mpr ⟨j9, q1, rfl⟩, q2⟩, fun ⟨x, q1, q2⟩ => by obtain ⟨j9, q3, q4⟩ := q_mem.mp q1; exact ⟨j9, q3, q4 ▸ q2⟩⟩
    exact W.zret (v := nI b) hx hb hr (by rcases (show b = 0 ∨ b = 1 by omega) with h8 | h8 <;> rw [h8] <;> rfl) (fun t9 ht hW => ⟨⟨nI b, s5, rfl, ⟨(by by_cases h8 : b = 1; (rw [if_pos (hbi.mp h8), h8]; rfl); (rw [if_neg (fun h => h8 (hbi.mpr h)), show b = 0 by omega]; rfl)), hcts⟩, by show va_P D vwCl _ t9.heap; rw [ht]; exact hP⟩, hS.F ht⟩) hS.2.2 dX10_meets_61
  · skip
    refine lv_iload hx hb dX10_meets_25 (lv_at hl 1 rfl) ?_
    refine q_cut 51 (fun (x : (Nat)) (Hc : Heap) (Lc : List Loc) (ls : Array Slot) (st : List Value) => match x with | b2 => (b2 ≤ 1) ∧ (b2 = 1 ↔ (b = 1 ∨ List.getD R j 0 ∈ nbl k (wd i))) ∧ H_2 = Hc ∧ locs_3 = Lc ∧ lv_has ls 7 [(6, .int (nI j)), (5, .int (nI b)), (4, .int (nI (List.length (nbl k (wd i))))), (0, .ref mo), (1, .int (nI i)), (2, .int (nI k)), (3, .int (nI (List.length R)))] ∧ [.int (nI b2)] = st) ?_ ?_
    · clear hl
      rintro b2 Hc Lc ls st hI
      obtain ⟨h3, h4, rfl, rfl, hl, rfl⟩ := hI
      refine lv_istore (lv' := [(5, .int (nI b2)), (6, .int (nI j)), (4, .int (nI (List.length (nbl k (wd i))))), (0, .ref mo), (1, .int (nI i)), (2, .int (nI k)), (3, .int (nI (List.length R)))]) hx hb dX10_meets_51 hl (by decide) rfl (fun ls hl => ?_)
      refine lv_iinc (v := nI (j + 1)) (lv' := [(6, .int (nI (j + 1))), (5, .int (nI b2)), (4, .int (nI (List.length (nbl k (wd i))))), (0, .ref mo), (1, .int (nI i)), (2, .int (nI k)), (3, .int (nI (List.length R)))]) hx hb dX10_meets_53 hl (k := 1) rfl (q_inc (k := 1) (by omega)) (by decide) rfl (fun ls hl => ?_)
      refine lv_goto (tgt := 19) hx hb dX10_meets_56 (by decide) ?_
      exact ih_19 (j + 1, b2) _ _ _ ⟨(by omega), h3, (by rw [h4, hbv]; constructor; (rintro (⟨j9, q1, q2⟩ | q1); (exact ⟨j9, by omega, q2⟩); (exact ⟨j, by omega, q1⟩)); (rintro ⟨j9, q1, q2⟩; by_cases e : j9 = j; (exact Or.inr (e ▸ q2)); (exact Or.inl ⟨j9, by omega, q2⟩))), rfl, rfl, (lv_sub hl [0, 1, 2, 3, 4, 5, 6] rfl)⟩ (by show List.length R - (j + 1) < List.length R - j; omega)
    · intro hcut_51
      refine q_if_ne (a := b) (tgt := 46) hx hb dX10_meets_27 (by decide) (by omega) (fun c_27 => ?_) (fun c_27 => ?_)
      · skip
        refine lv_iconst (v := nI 1) hx hb dX10_meets_46 (by decide) ?_
        refine lv_goto (tgt := 51) hx hb dX10_meets_47 (by decide) ?_
        exact hcut_51 1 _ _ _ _ ⟨(by omega), (by constructor; (intro q9; first | omega | (exact Or.inl (by omega)) | (exact Or.inr (by assumption))); (rintro (q9 | q9) <;> first | omega | exact absurd q9 (by assumption))), rfl, rfl, (lv_sub hl [0, 1, 2, 3, 4, 5, 6] rfl), rfl⟩
      · skip
        refine lv_aload_n hx hb dX10_meets_30 rfl (lv_at hl 3 rfl) ?_
        refine lv_aload_n hx hb dX10_meets_31 rfl (lv_at hl 3 rfl) ?_
        refine va_get (D := D) (own := RX10) (ref := "FuzzyFensModel") (ci := 9) (v := .ref mq) (C := RX10) (T := TX10) (N := 15) hx hb hts iX10_meets_X10 hown hK hR 0 rfl rfl 14 (by decide) (hts (.fieldLink RX10 41 "FuzzyFensModel" "right" "[J") (List.mem_of_getElem? (i := 2) rfl)) (fun _ h9 => h9) rfl dX10_meets_32 ?_
        refine lv_iload hx hb dX10_meets_35 (lv_at hl 0 rfl) ?_
        refine va_lald (D := D) hx hb hK hR 2 2 rfl rfl (vp_in_nI (n := j) (N := 64) (by omega) (by decide)) dX10_meets_37 ?_
        rw [nI_clamp (n := j) (by omega)]
        refine q_cvl (show (fq j) = (lN (List.getD R j 0)) from hQ j (by omega)) ?_
        refine lv_iload hx hb dX10_meets_38 (lv_at hl 2 rfl) ?_
        refine vp_callSi (W.runV (As := [.long (lN (List.getD R j 0)), .int (nI (List.length (nbl k (wd i))))]) (rest := []) ⟨hx, hb, hml, hown, hts⟩ (c_X10_isOnLeft (l := l) (D := D) (mo := mo) (mw := mw) (mct := mct) (mp := mp) (mnm := mnm) (m1 := m1) (m2 := m2) (mt := mt) (mk := mk) (mr := mr) (ml := ml) (mq := mq) (k10 := k10) (th := th) (n := n) (om := om) (tm := tm) (fl := s5) (L := nbl k (wd i)) (v := List.getD R j 0) (hL := hcts) (hLb := lpl_bnd hwa _) (hLl := by omega) (hv9 := (by have := hQb j (by omega); omega))) (cwV 2 hts gX10_meets_X10_isOnLeft rfl rfl rfl (by decide +kernel) ⟨Nat.le_of_ble_eq_true rfl, Nat.le_of_ble_eq_true rfl⟩) ⟨qP_blind, (va_recv hK hR (ci := 9) (q0 := 0) rfl rfl), (qP_of (show va_P D vwCl [(mo, .inr (9, [.int th, .int (nI n), .ref mw, .ref mct, .ref mp, .ref mnm, .ref m1, .ref m2, .int om, .int tm, .ref mt, .ref mk, .ref mr, .ref ml, .ref mq])), (ml, .inl (k10, 64, .inr (.inl s5)))] _ from (va_P.app (hR.sub (ws' := [(mo, .inr (9, [.int th, .int (nI n), .ref mw, .ref mct, .ref mp, .ref mnm, .ref m1, .ref m2, .int om, .int tm, .ref mt, .ref mk, .ref mr, .ref ml, .ref mq]))]) [0] rfl) (hP.sub (ws' := [(ml, .inl (k10, 64, .inr (.inl s5)))]) [0] rfl))) (hK.sub (tys' := [(k10, .long)]) [0] rfl) hNw)⟩ rfl rfl hl.1 rfl (lv_room (Nat.le_of_ble_eq_true rfl)) dX10_meets_40 ⟨Nat.le_of_ble_eq_true rfl, Nat.le_of_ble_eq_true rfl⟩) (fun r_6 hr_6 => ?_)
        subst hr_6
        refine q_ifb_eq (tgt := 50) hx hb dX10_meets_43 (by decide) (fun c_43 => ?_) (fun c_43 => ?_)
        · skip
          refine lv_iconst (v := nI 0) hx hb dX10_meets_50 (by decide) ?_
          exact hcut_51 0 _ _ _ _ ⟨(by omega), (by constructor; (intro q9; first | omega | (exact Or.inl (by omega)) | (exact Or.inr (by assumption))); (rintro (q9 | q9) <;> first | omega | exact absurd q9 (by assumption))), rfl, rfl, (lv_sub hl [0, 1, 2, 3, 4, 5, 6] rfl), rfl⟩
        · skip
          refine lv_iconst (v := nI 1) hx hb dX10_meets_46 (by decide) ?_
          refine lv_goto (tgt := 51) hx hb dX10_meets_47 (by decide) ?_
          exact hcut_51 1 _ _ _ _ ⟨(by omega), (by constructor; (intro q9; first | omega | (exact Or.inl (by omega)) | (exact Or.inr (by assumption))); (rintro (q9 | q9) <;> first | omega | exact absurd q9 (by assumption))), rfl, rfl, (lv_sub hl [0, 1, 2, 3, 4, 5, 6] rfl), rfl⟩

/-- a candidate; the false ones alone, if asked so -/
abbrev cdp (wd ct : Nat → Nat) (a k fB i : Nat) : Prop := (0 < ct i ∧ ∃ x ∈ nbl k a, x ∈ nbl k (wd i)) ∧ ¬ (fB = 1 ∧ cor wd ct a k i)

set_option maxRecDepth 20000 in
theorem iX10_candidateMany_X10 : ∀ w ∈ wsX100, w ∈ wsX10_candidateMany := by decide +kernel
set_option maxHeartbeats 4000000 in
set_option maxRecDepth 100000 in
/-- candidateMany -/
theorem c_X10_candidateMany (l : Launch) (D : va_G) (sz : Nat) (mo : Nat) (mw : Nat) (mct : Nat) (mp : Nat) (mnm : Nat) (m1 : Nat) (m2 : Nat) (mt : Nat) (mk : Nat) (mr : Nat) (ml : Nat) (mq : Nat) (k1 : ClassId) (k2 : ClassId) (k5 : ClassId) (k6 : ClassId) (k7 : ClassId) (k10 : ClassId) (k11 : ClassId) (th : Int32) (n : Nat) (om : Int32) (tm : Int32) (f1 : Nat → Int32) (f2 : Nat → Int32) (ft : Nat → Int32) (fl : Nat → Int64) (fq : Nat → Int64) (wd : Nat → Nat) (ct : Nat → Nat) (a : Nat) (k : Nat) (fB : Nat) (hnd : ([mo, m1, m2, mt, ml, mq] ++ [mw, mct]).Nodup) (hga : gw a) (hn40 : n ≤ 40) (hgw : ∀ k, k < n → gw (wd k)) (hcb : ∀ k, k < n → ct k < 2 ^ 31) (hk3 : k ≤ 3) (hfB : fB ≤ 1) : Met l yX10_candidateMany wsX10_candidateMany { frames := 5, cells := 0, slots := 0, locals := 133 } (va_Pc [.ref mo, .long (lN a), .int (nI k), .int (nI fB)] (qW D sz ([(mw, .inl (k1, 40, .inr (.inl (fun k9 => lN (wd k9))))), (mct, .inl (k2, 40, .inl (fun k9 => nI (ct k9))))]) [(mo, .inr (9, [.int th, .int (nI n), .ref mw, .ref mct, .ref mp, .ref mnm, .ref m1, .ref m2, .int om, .int tm, .ref mt, .ref mk, .ref mr, .ref ml, .ref mq])), (m1, .inl (k5, 11, .inl f1)), (m2, .inl (k6, 11, .inl f2)), (mt, .inl (k7, 121, .inl ft)), (ml, .inl (k10, 64, .inr (.inl fl))), (mq, .inl (k11, 64, .inr (.inl fq)))] [(k5, .int), (k6, .int), (k7, .int), (k10, .long), (k11, .long), (k1, .long), (k2, .int)])) (va_Qi (fun (rv : Int32) (uv : (Int32) × (Int32) × (Nat → Int32) × (Nat → Int32) × (Nat → Int32) × (Nat → Int64) × (Nat → Int64)) => rv = nI (cnt (fun i => decide (cdp wd ct a k fB i)) n)) (fun (uv : (Int32) × (Int32) × (Nat → Int32) × (Nat → Int32) × (Nat → Int32) × (Nat → Int64) × (Nat → Int64)) (tv : State) => va_P D vwCl [(mo, .inr (9, [.int th, .int (nI n), .ref mw, .ref mct, .ref mp, .ref mnm, .ref m1, .ref m2, .int uv.1, .int uv.2.1, .ref mt, .ref mk, .ref mr, .ref ml, .ref mq])), (m1, .inl (k5, 11, .inl uv.2.2.1)), (m2, .inl (k6, 11, .inl uv.2.2.2.1)), (mt, .inl (k7, 121, .inl uv.2.2.2.2.1)), (ml, .inl (k10, 64, .inr (.inl uv.2.2.2.2.2.1))), (mq, .inl (k11, 64, .inr (.inl uv.2.2.2.2.2.2)))] tv.heap) (va_A [(mo, .inr (9, [.int th, .int (nI n), .ref mw, .ref mct, .ref mp, .ref mnm, .ref m1, .ref m2, .int om, .int tm, .ref mt, .ref mk, .ref mr, .ref ml, .ref mq])), (m1, .inl (k5, 11, .inl f1)), (m2, .inl (k6, 11, .inl f2)), (mt, .inl (k7, 121, .inl ft)), (ml, .inl (k10, 64, .inr (.inl fl))), (mq, .inl (k11, 64, .inr (.inl fq)))] sz)) 0 0 (va_A [(mo, .inr (9, [.int th, .int (nI n), .ref mw, .ref mct, .ref mp, .ref mnm, .ref m1, .ref m2, .int om, .int tm, .ref mt, .ref mk, .ref mr, .ref ml, .ref mq])), (m1, .inl (k5, 11, .inl f1)), (m2, .inl (k6, 11, .inl f2)), (mt, .inl (k7, 121, .inl ft)), (ml, .inl (k10, 64, .inr (.inl fl))), (mq, .inl (k11, 64, .inr (.inl fq)))] sz) := by
  refine Met.ofW (cc := cX10_candidateMany) (maxL := 9) (ret := (some .int)) (by decide) rfl ?_
  intro pM eM s mi9 argsM belowM methM cM sM B hml hv
  obtain ⟨rfl, hsz, hR0, hP, hK, hNw⟩ := hv
  have hx := B.exec
  have hb := B.bytes
  have hr := B.returns
  have hts := atoms_spec (ws := wsX10_candidateMany) B.pre
  have hown : s.vm.findClass RX10 = some mi9.cls := findClass_of_methodNamed B.named
  have hlocks := B.notSynchronized
  subst hsz
  have hna := q_na (RW := [(mo, .inr (9, [.int th, .int (nI n), .ref mw, .ref mct, .ref mp, .ref mnm, .ref m1, .ref m2, .int om, .int tm, .ref mt, .ref mk, .ref mr, .ref ml, .ref mq])), (m1, .inl (k5, 11, .inl f1)), (m2, .inl (k6, 11, .inl f2)), (mt, .inl (k7, 121, .inl ft)), (ml, .inl (k10, 64, .inr (.inl fl))), (mq, .inl (k11, 64, .inr (.inl fq)))]) (RO := [(mw, .inl (k1, 40, .inr (.inl (fun k9 => lN (wd k9))))), (mct, .inl (k2, 40, .inl (fun k9 => nI (ct k9))))]) hnd rfl rfl hR0
  have hD := q_D (RW := [(mo, .inr (9, [.int th, .int (nI n), .ref mw, .ref mct, .ref mp, .ref mnm, .ref m1, .ref m2, .int om, .int tm, .ref mt, .ref mk, .ref mr, .ref ml, .ref mq])), (m1, .inl (k5, 11, .inl f1)), (m2, .inl (k6, 11, .inl f2)), (mt, .inl (k7, 121, .inl ft)), (ml, .inl (k10, 64, .inr (.inl fl))), (mq, .inl (k11, 64, .inr (.inl fq)))]) (sz := s.heap.size) hnd rfl
  have hA : ∀ q : Nat, s.heap.size ≤ q → va_A [(mo, .inr (9, [.int th, .int (nI n), .ref mw, .ref mct, .ref mp, .ref mnm, .ref m1, .ref m2, .int om, .int tm, .ref mt, .ref mk, .ref mr, .ref ml, .ref mq])), (m1, .inl (k5, 11, .inl f1)), (m2, .inl (k6, 11, .inl f2)), (mt, .inl (k7, 121, .inl ft)), (ml, .inl (k10, 64, .inr (.inl fl))), (mq, .inl (k11, 64, .inr (.inl fq)))] s.heap.size q := fun q h => Or.inr h
  generalize hAe : va_A [(mo, .inr (9, [.int th, .int (nI n), .ref mw, .ref mct, .ref mp, .ref mnm, .ref m1, .ref m2, .int om, .int tm, .ref mt, .ref mk, .ref mr, .ref ml, .ref mq])), (m1, .inl (k5, 11, .inl f1)), (m2, .inl (k6, 11, .inl f2)), (mt, .inl (k7, 121, .inl ft)), (ml, .inl (k10, 64, .inr (.inl fl))), (mq, .inl (k11, 64, .inr (.inl fq)))] s.heap.size = A at hna hD hA ⊢
  have hS : va_S A s.heap s.heap [] := va_S.rf
  have hR := hR0
  have hP : va_P D vwCl [(mo, .inr (9, [.int th, .int (nI n), .ref mw, .ref mct, .ref mp, .ref mnm, .ref m1, .ref m2, .int om, .int tm, .ref mt, .ref mk, .ref mr, .ref ml, .ref mq])), (m1, .inl (k5, 11, .inl f1)), (m2, .inl (k6, 11, .inl f2)), (mt, .inl (k7, 121, .inl ft)), (ml, .inl (k10, 64, .inr (.inl fl))), (mq, .inl (k11, 64, .inr (.inl fq)))] s.heap := hP
  have hl := lv_entry ([.ref mo, .long (lN a), .int (nI k), .int (nI fB)]) (n := 9) (Nat.le_of_ble_eq_true rfl)
  rw [lg_entry_eq]
  generalize (lg_sl ([.ref mo, .long (lN a), .int (nI k), .int (nI fB)]) ++ List.replicate (9 - (lg_sl ([.ref mo, .long (lN a), .int (nI k), .int (nI fB)])).length) Slot.unset).toArray = ls at hl ⊢
  have hl : lv_has ls 9 [(0, .ref mo), (1, .long (lN a)), (3, .int (nI k)), (4, .int (nI fB))] := hl
  have hwa := gw_wl hga
  have hla := gw_lt hga
  have hn56 : List.length (nbl k a) ≤ 56 := q_lpl_56 hwa (by split <;> omega)
  refine lv_aload_n hx hb dX10_candidateMany_0 rfl (lv_at hl 0 rfl) ?_
  refine lv_lload_n hx hb dX10_candidateMany_1 rfl (lv_at hl 1 rfl) ?_
  refine lv_iload_n hx hb dX10_candidateMany_2 rfl (lv_at hl 2 rfl) ?_
  have hF := va_free (wc := [(ml, .inl (k10, 64, .inr (.inl fl)))]) hD hS hA [4] rfl
  refine va_calli (va_runV (As := [.long (lN a), .int (nI k)]) (rest := []) ⟨hx, hb, hml, hown, hts⟩ (c_X10_layLeft (l := l) (D := D) (mo := mo) (mw := mw) (mct := mct) (mp := mp) (mnm := mnm) (m1 := m1) (m2 := m2) (mt := mt) (mk := mk) (mr := mr) (ml := ml) (mq := mq) (k10 := k10) (th := th) (n := n) (om := om) (tm := tm) (fl := fl) (a := a) (k := k) (sz := s.heap.size) (hnd := (q_nds hnd [4, 0] rfl rfl)) (hga := hga) (hk3 := hk3)) (cwV 2 hts gX10_candidateMany_X10_layLeft rfl rfl rfl (by decide +kernel) ⟨Nat.le_of_ble_eq_true rfl, Nat.le_of_ble_eq_true rfl⟩) ⟨qW_blind, (va_recv hK hP (ci := 9) (q0 := 0) rfl rfl), (qW_of (hP.sub (ws' := [(mo, .inr (9, [.int th, .int (nI n), .ref mw, .ref mct, .ref mp, .ref mnm, .ref m1, .ref m2, .int om, .int tm, .ref mt, .ref mk, .ref mr, .ref ml, .ref mq]))]) [0] rfl) (hP.sub (ws' := [(ml, .inl (k10, 64, .inr (.inl fl)))]) [4] rfl) (hK.sub (tys' := [(k10, .long)]) [3] rfl) hNw)⟩ rfl rfl hl.1 rfl (lv_room (Nat.le_of_ble_eq_true rfl)) dX10_candidateMany_3 ⟨Nat.le_of_ble_eq_true rfl, Nat.le_of_ble_eq_true rfl⟩) hS (fun q _ h => hF q h) hF (fun r_1 u_5 t_4 H_2 locs_3 ht hvm hr_1 hB hz1 hk1 hS => ?_)
  obtain ⟨s5, rfl⟩ : ∃ z, z = u_5 := ⟨_, rfl⟩
  replace hB : va_P D vwCl [(ml, .inl (k10, 64, .inr (.inl s5)))] H_2 := by rw [← ht]; exact hB
  obtain ⟨hP, hD⟩ := q_join (wc := [(ml, .inl (k10, 64, .inr (.inl fl)))]) (w1 := [(ml, .inl (k10, 64, .inr (.inl s5)))]) (ws' := [(mo, .inr (9, [.int th, .int (nI n), .ref mw, .ref mct, .ref mp, .ref mnm, .ref m1, .ref m2, .int om, .int tm, .ref mt, .ref mk, .ref mr, .ref ml, .ref mq])), (m1, .inl (k5, 11, .inl f1)), (m2, .inl (k6, 11, .inl f2)), (mt, .inl (k7, 121, .inl ft)), (ml, .inl (k10, 64, .inr (.inl s5))), (mq, .inl (k11, 64, .inr (.inl fq)))]) [4] hP hD rfl rfl hk1 hB rfl
  have hR := q_ro hR0 hna hS
  obtain ⟨rfl, hcts⟩ := hr_1
  refine lv_istore (lv' := [(5, .int (nI (List.length (nbl k a)))), (0, .ref mo), (1, .long (lN a)), (3, .int (nI k)), (4, .int (nI fB))]) hx hb dX10_candidateMany_6 hl (by decide) rfl (fun ls hl => ?_)
  refine lv_iconst (v := nI 0) hx hb dX10_candidateMany_8 (by decide) ?_
  refine lv_istore (lv' := [(6, .int (nI 0)), (5, .int (nI (List.length (nbl k a)))), (0, .ref mo), (1, .long (lN a)), (3, .int (nI k)), (4, .int (nI fB))]) hx hb dX10_candidateMany_9 hl (by decide) rfl (fun ls hl => ?_)
  refine q_loop (fun (x : (Nat) × (Nat → Int64)) (H : Heap) (locs : List Loc) (ls : Array Slot) => match x with | (j, q1) => (j ≤ List.length (nbl k a)) ∧ (∀ j9, j9 < j → q1 j9 = lN (List.getD (nbl k a) j9 0)) ∧ va_P D vwCl [(mo, .inr (9, [.int th, .int (nI n), .ref mw, .ref mct, .ref mp, .ref mnm, .ref m1, .ref m2, .int om, .int tm, .ref mt, .ref mk, .ref mr, .ref ml, .ref mq])), (m1, .inl (k5, 11, .inl f1)), (m2, .inl (k6, 11, .inl f2)), (mt, .inl (k7, 121, .inl ft)), (ml, .inl (k10, 64, .inr (.inl s5))), (mq, .inl (k11, 64, .inr (.inl q1)))] H ∧ va_D A [(mo, .inr (9, [.int th, .int (nI n), .ref mw, .ref mct, .ref mp, .ref mnm, .ref m1, .ref m2, .int om, .int tm, .ref mt, .ref mk, .ref mr, .ref ml, .ref mq])), (m1, .inl (k5, 11, .inl f1)), (m2, .inl (k6, 11, .inl f2)), (mt, .inl (k7, 121, .inl ft)), (ml, .inl (k10, 64, .inr (.inl s5))), (mq, .inl (k11, 64, .inr (.inl q1)))] ∧ va_S A s.heap H locs ∧ lv_has ls 9 [(6, .int (nI j)), (5, .int (nI (List.length (nbl k a)))), (0, .ref mo), (1, .long (lN a)), (3, .int (nI k)), (4, .int (nI fB))]) (fun (x : (Nat) × (Nat → Int64)) => match x with | (j, q1) => List.length (nbl k a) - j) (0, fq) ⟨(by omega), (fun j9 h9 => by omega), hP, hD, hS, (lv_sub hl [0, 1, 2, 3, 4, 5] rfl)⟩ ?_
  clear hl
  clear hP hD hS
  rintro ⟨j, q1⟩ H locs ls hI ih_11
  obtain ⟨hj, hq1, hP, hD, hS, hl⟩ := hI
  have hR := q_ro hR0 hna hS
  refine lv_iload hx hb dX10_candidateMany_11 (lv_at hl 0 rfl) ?_
  refine lv_iload hx hb dX10_candidateMany_13 (lv_at hl 1 rfl) ?_
  refine q_icmp_ge (a := j) (b := List.length (nbl k a)) (tgt := 38) hx hb dX10_candidateMany_15 (by decide) (by omega) (by omega) (fun c_15 => ?_) (fun c_15 => ?_)
  · skip
    have hQ : ∀ j9, j9 < List.length (nbl k a) → q1 j9 = lN (List.getD (nbl k a) j9 0) := fun j9 h9 => hq1 j9 (by omega)
    refine lv_iconst (v := nI 0) hx hb dX10_candidateMany_38 (by decide) ?_
    refine lv_istore (lv' := [(6, .int (nI 0)), (5, .int (nI (List.length (nbl k a)))), (0, .ref mo), (1, .long (lN a)), (3, .int (nI k)), (4, .int (nI fB))]) hx hb dX10_candidateMany_39 hl (by decide) rfl (fun ls hl => ?_)
    refine lv_iconst (v := nI 0) hx hb dX10_candidateMany_41 (by decide) ?_
    refine lv_istore (lv' := [(7, .int (nI 0)), (6, .int (nI 0)), (5, .int (nI (List.length (nbl k a)))), (0, .ref mo), (1, .long (lN a)), (3, .int (nI k)), (4, .int (nI fB))]) hx hb dX10_candidateMany_42 hl (by decide) rfl (fun ls hl => ?_)
    refine q_loop (fun (x : (Nat) × (Int32) × (Int32) × (Nat → Int32) × (Nat → Int32) × (Nat → Int32) × (Nat → Int64)) (H : Heap) (locs : List Loc) (ls : Array Slot) => match x with | (i, oa, ta, u1, u2, u3, l1) => (i ≤ n) ∧ va_P D vwCl [(mo, .inr (9, [.int th, .int (nI n), .ref mw, .ref mct, .ref mp, .ref mnm, .ref m1, .ref m2, .int oa, .int ta, .ref mt, .ref mk, .ref mr, .ref ml, .ref mq])), (m1, .inl (k5, 11, .inl u1)), (m2, .inl (k6, 11, .inl u2)), (mt, .inl (k7, 121, .inl u3)), (ml, .inl (k10, 64, .inr (.inl l1))), (mq, .inl (k11, 64, .inr (.inl q1)))] H ∧ va_D A [(mo, .inr (9, [.int th, .int (nI n), .ref mw, .ref mct, .ref mp, .ref mnm, .ref m1, .ref m2, .int oa, .int ta, .ref mt, .ref mk, .ref mr, .ref ml, .ref mq])), (m1, .inl (k5, 11, .inl u1)), (m2, .inl (k6, 11, .inl u2)), (mt, .inl (k7, 121, .inl u3)), (ml, .inl (k10, 64, .inr (.inl l1))), (mq, .inl (k11, 64, .inr (.inl q1)))] ∧ va_S A s.heap H locs ∧ lv_has ls 9 [(7, .int (nI i)), (6, .int (nI (cnt (fun i => decide (cdp wd ct a k fB i)) i))), (5, .int (nI (List.length (nbl k a)))), (0, .ref mo), (1, .long (lN a)), (3, .int (nI k)), (4, .int (nI fB))]) (fun (x : (Nat) × (Int32) × (Int32) × (Nat → Int32) × (Nat → Int32) × (Nat → Int32) × (Nat → Int64)) => match x with | (i, oa, ta, u1, u2, u3, l1) => n - i) (0, om, tm, f1, f2, ft, s5) ⟨(by omega), hP, hD, hS, (lv_sub hl [0, 1, 2, 3, 4, 5, 6] rfl)⟩ ?_
    clear hl
    clear hP hD hS
    rintro ⟨i, oa, ta, u1, u2, u3, l1⟩ H locs ls hI ih_44
    obtain ⟨hi, hP, hD, hS, hl⟩ := hI
    have hR := q_ro hR0 hna hS
    refine lv_iload hx hb dX10_candidateMany_44 (lv_at hl 0 rfl) ?_
    refine lv_aload_n hx hb dX10_candidateMany_46 rfl (lv_at hl 3 rfl) ?_
    refine va_get (D := D) (own := RX10) (ref := "FuzzyFensModel") (ci := 9) (v := .int (nI n)) (C := RX10) (T := TX10) (N := 15) hx hb hts iX10_candidateMany_X10 hown hK hP 0 rfl rfl 1 (by decide) (hts (.fieldLink RX10 77 "FuzzyFensModel" "many" "I") (List.mem_of_getElem? (i := 3) rfl)) (fun _ h9 => h9) rfl dX10_candidateMany_47 ?_
    refine q_icmp_ge (a := i) (b := n) (tgt := 119) hx hb dX10_candidateMany_50 (by decide) (by omega) (by omega) (fun c_50 => ?_) (fun c_50 => ?_)
    · skip
      refine lv_iload hx hb dX10_candidateMany_119 (lv_at hl 1 rfl) ?_
      exact W.iret (v := nI (cnt (fun i => decide (cdp wd ct a k fB i)) i)) hx hb hr (fun t9 ht hW => ⟨⟨nI (cnt (fun i => decide (cdp wd ct a k fB i)) i), (oa, ta, u1, u2, u3, l1, q1), rfl, (by rw [show n = i by omega]), by show va_P D vwCl _ t9.heap; rw [ht]; exact hP⟩, hS.F ht⟩) hS.2.2 dX10_candidateMany_121
    · skip
      refine lv_aload_n hx hb dX10_candidateMany_53 rfl (lv_at hl 3 rfl) ?_
      refine va_get (D := D) (own := RX10) (ref := "FuzzyFensModel") (ci := 9) (v := .ref mct) (C := RX10) (T := TX10) (N := 15) hx hb hts iX10_candidateMany_X10 hown hK hP 0 rfl rfl 3 (by decide) (hts (.fieldLink RX10 13 "FuzzyFensModel" "counts" "[I") (List.mem_of_getElem? (i := 4) rfl)) (fun _ h9 => h9) rfl dX10_candidateMany_54 ?_
      refine lv_iload hx hb dX10_candidateMany_57 (lv_at hl 0 rfl) ?_
      refine va_iald (D := D) hx hb hK hR 1 6 rfl rfl (vp_in_nI (n := i) (N := 40) (by omega) (by decide)) dX10_candidateMany_59 ?_
      rw [nI_clamp (n := i) (by omega)]
      refine q_cvi (show (fun k9 => nI (ct k9)) i = nI (ct i) from rfl) ?_
      refine q_cut 80 (fun (x : (Nat) × (Nat → Int64)) (H : Heap) (locs : List Loc) (ls : Array Slot) (st : List Value) => match x with | (b, l2) => (b ≤ 1) ∧ (b = 1 ↔ (0 < ct i ∧ ∃ x ∈ nbl k a, x ∈ nbl k (wd i))) ∧ va_P D vwCl [(mo, .inr (9, [.int th, .int (nI n), .ref mw, .ref mct, .ref mp, .ref mnm, .ref m1, .ref m2, .int oa, .int ta, .ref mt, .ref mk, .ref mr, .ref ml, .ref mq])), (m1, .inl (k5, 11, .inl u1)), (m2, .inl (k6, 11, .inl u2)), (mt, .inl (k7, 121, .inl u3)), (ml, .inl (k10, 64, .inr (.inl l2))), (mq, .inl (k11, 64, .inr (.inl q1)))] H ∧ va_D A [(mo, .inr (9, [.int th, .int (nI n), .ref mw, .ref mct, .ref mp, .ref mnm, .ref m1, .ref m2, .int oa, .int ta, .ref mt, .ref mk, .ref mr, .ref ml, .ref mq])), (m1, .inl (k5, 11, .inl u1)), (m2, .inl (k6, 11, .inl u2)), (mt, .inl (k7, 121, .inl u3)), (ml, .inl (k10, 64, .inr (.inl l2))), (mq, .inl (k11, 64, .inr (.inl q1)))] ∧ va_S A s.heap H locs ∧ lv_has ls 9 [(7, .int (nI i)), (6, .int (nI (cnt (fun i => decide (cdp wd ct a k fB i)) i))), (5, .int (nI (List.length (nbl k a)))), (0, .ref mo), (1, .long (lN a)), (3, .int (nI k)), (4, .int (nI fB))] ∧ [.int (nI b)] = st) ?_ ?_
      · clear hl; clear hP hD hS
        rintro ⟨b, l2⟩ H locs ls st hI
        obtain ⟨hb1, hbv, hP, hD, hS, hl, rfl⟩ := hI
        have hR := q_ro hR0 hna hS
        refine lv_istore (lv' := [(8, .int (nI b)), (7, .int (nI i)), (6, .int (nI (cnt (fun i => decide (cdp wd ct a k fB i)) i))), (5, .int (nI (List.length (nbl k a)))), (0, .ref mo), (1, .long (lN a)), (3, .int (nI k)), (4, .int (nI fB))]) hx hb dX10_candidateMany_80 hl (by decide) rfl (fun ls hl => ?_)
        refine lv_iload hx hb dX10_candidateMany_82 (lv_at hl 2 rfl) ?_
        refine lv_iload hx hb dX10_candidateMany_84 (lv_at hl 0 rfl) ?_
        refine q_cut 110 (fun (x : (Nat) × (Int32) × (Int32) × (Nat → Int32) × (Nat → Int32) × (Nat → Int32)) (H : Heap) (locs : List Loc) (ls : Array Slot) (st : List Value) => match x with | (z, oc9, tc9, w1, w2, w3) => (cnt (fun i => decide (cdp wd ct a k fB i)) i + z = cnt (fun i => decide (cdp wd ct a k fB i)) (i + 1)) ∧ va_P D vwCl [(mo, .inr (9, [.int th, .int (nI n), .ref mw, .ref mct, .ref mp, .ref mnm, .ref m1, .ref m2, .int oc9, .int tc9, .ref mt, .ref mk, .ref mr, .ref ml, .ref mq])), (m1, .inl (k5, 11, .inl w1)), (m2, .inl (k6, 11, .inl w2)), (mt, .inl (k7, 121, .inl w3)), (ml, .inl (k10, 64, .inr (.inl l2))), (mq, .inl (k11, 64, .inr (.inl q1)))] H ∧ va_D A [(mo, .inr (9, [.int th, .int (nI n), .ref mw, .ref mct, .ref mp, .ref mnm, .ref m1, .ref m2, .int oc9, .int tc9, .ref mt, .ref mk, .ref mr, .ref ml, .ref mq])), (m1, .inl (k5, 11, .inl w1)), (m2, .inl (k6, 11, .inl w2)), (mt, .inl (k7, 121, .inl w3)), (ml, .inl (k10, 64, .inr (.inl l2))), (mq, .inl (k11, 64, .inr (.inl q1)))] ∧ va_S A s.heap H locs ∧ lv_has ls 9 [(8, .int (nI b)), (7, .int (nI i)), (6, .int (nI (cnt (fun i => decide (cdp wd ct a k fB i)) i))), (5, .int (nI (List.length (nbl k a)))), (0, .ref mo), (1, .long (lN a)), (3, .int (nI k)), (4, .int (nI fB))] ∧ [.int (nI z), .int (nI (cnt (fun i => decide (cdp wd ct a k fB i)) i))] = st) ?_ ?_
        · clear hl; clear hP hD hS
          rintro ⟨z, oc9, tc9, w1, w2, w3⟩ H locs ls st hI
          obtain ⟨hz, hP, hD, hS, hl, rfl⟩ := hI
          have hR := q_ro hR0 hna hS
          refine q_iadd (d := cnt (fun i => decide (cdp wd ct a k fB i)) i + z) hx hb dX10_candidateMany_110 (by omega) ?_
          refine q_cvi (show (nI (cnt (fun i => decide (cdp wd ct a k fB i)) i + z)) = (nI (cnt (fun i => decide (cdp wd ct a k fB i)) (i + 1))) from (by rw [hz])) ?_
          refine lv_istore (lv' := [(6, .int (nI (cnt (fun i => decide (cdp wd ct a k fB i)) (i + 1)))), (8, .int (nI b)), (7, .int (nI i)), (5, .int (nI (List.length (nbl k a)))), (0, .ref mo), (1, .long (lN a)), (3, .int (nI k)), (4, .int (nI fB))]) hx hb dX10_candidateMany_111 hl (by decide) rfl (fun ls hl => ?_)
          refine lv_iinc (v := nI (i + 1)) (lv' := [(7, .int (nI (i + 1))), (6, .int (nI (cnt (fun i => decide (cdp wd ct a k fB i)) (i + 1)))), (8, .int (nI b)), (5, .int (nI (List.length (nbl k a)))), (0, .ref mo), (1, .long (lN a)), (3, .int (nI k)), (4, .int (nI fB))]) hx hb dX10_candidateMany_113 hl (k := 2) rfl (q_inc (k := 1) (by omega)) (by decide) rfl (fun ls hl => ?_)
          refine lv_goto (tgt := 44) hx hb dX10_candidateMany_116 (by decide) ?_
          exact ih_44 (i + 1, oc9, tc9, w1, w2, w3, l2) _ _ _ ⟨(by omega), hP, hD, hS, (lv_sub hl [0, 1, 3, 4, 5, 6, 7] rfl)⟩ (by show n - (i + 1) < n - i; omega)
        · intro hcut_110
          refine q_if_eq (a := b) (tgt := 109) hx hb dX10_candidateMany_86 (by decide) (by omega) (fun c_86 => ?_) (fun c_86 => ?_)
          · skip
            refine lv_iconst (v := nI 0) hx hb dX10_candidateMany_109 (by decide) ?_
            exact hcut_110 (0, oa, ta, u1, u2, u3) _ _ _ _ ⟨(cnt_f (by simp only [decide_eq_true_eq]; exact fun h9 => by have := hbv.mpr h9.1; omega)).symm, hP, hD, hS, (lv_sub hl [0, 1, 2, 3, 4, 5, 6, 7] rfl), rfl⟩
          · skip
            refine lv_iload hx hb dX10_candidateMany_89 (lv_at hl 7 rfl) ?_
            refine q_if_eq (a := fB) (tgt := 105) hx hb dX10_candidateMany_91 (by decide) (by omega) (fun c_91 => ?_) (fun c_91 => ?_)
            · skip
              refine lv_iconst (v := nI 1) hx hb dX10_candidateMany_105 (by decide) ?_
              refine lv_goto (tgt := 110) hx hb dX10_candidateMany_106 (by decide) ?_
              exact hcut_110 (1, oa, ta, u1, u2, u3) _ _ _ _ ⟨(cnt_t (by simp only [decide_eq_true_eq]; exact ⟨hbv.mp (by omega), fun h9 => by have := h9.1; omega⟩)).symm, hP, hD, hS, (lv_sub hl [0, 1, 2, 3, 4, 5, 6, 7] rfl), rfl⟩
            · skip
              refine lv_aload_n hx hb dX10_candidateMany_94 rfl (lv_at hl 4 rfl) ?_
              refine lv_iload hx hb dX10_candidateMany_95 (lv_at hl 1 rfl) ?_
              refine lv_lload_n hx hb dX10_candidateMany_97 rfl (lv_at hl 5 rfl) ?_
              refine lv_iload_n hx hb dX10_candidateMany_98 rfl (lv_at hl 6 rfl) ?_
              have hF := va_free (wc := [(mo, .inr (9, [.int th, .int (nI n), .ref mw, .ref mct, .ref mp, .ref mnm, .ref m1, .ref m2, .int oa, .int ta, .ref mt, .ref mk, .ref mr, .ref ml, .ref mq])), (m1, .inl (k5, 11, .inl u1)), (m2, .inl (k6, 11, .inl u2)), (mt, .inl (k7, 121, .inl u3))]) hD hS hA [0, 1, 2, 3] rfl
              refine va_calli (va_runV (As := [.int (nI i), .long (lN a), .int (nI k)]) (rest := [.int (nI (cnt (fun i => decide (cdp wd ct a k fB i)) i))]) ⟨hx, hb, hml, hown, hts⟩ (c_X10_corrects (l := l) (D := D) (mo := mo) (mw := mw) (mct := mct) (mp := mp) (mnm := mnm) (m1 := m1) (m2 := m2) (mt := mt) (mk := mk) (mr := mr) (ml := ml) (mq := mq) (k1 := k1) (k2 := k2) (k5 := k5) (k6 := k6) (k7 := k7) (th := th) (n := n) (om := oa) (tm := ta) (f1 := u1) (f2 := u2) (ft := u3) (wd := wd) (ct := ct) (a := a) (i := i) (k := k) (sz := H.size) (hnd := (q_nds hnd [0, 1, 2, 3, 6, 7] rfl rfl)) (hga := hga) (hn40 := hn40) (hgw := hgw) (hcb := hcb) (hi := by omega) (hk9 := by omega)) (cwV 3 hts gX10_candidateMany_X10_corrects rfl rfl rfl (by decide +kernel) ⟨Nat.le_of_ble_eq_true rfl, Nat.le_of_ble_eq_true rfl⟩) ⟨qW_blind, (va_recv hK hP (ci := 9) (q0 := 0) rfl rfl), (qW_of (hR.sub (ws' := [(mw, .inl (k1, 40, .inr (.inl (fun k9 => lN (wd k9))))), (mct, .inl (k2, 40, .inl (fun k9 => nI (ct k9))))]) [0, 1] rfl) (hP.sub (ws' := [(mo, .inr (9, [.int th, .int (nI n), .ref mw, .ref mct, .ref mp, .ref mnm, .ref m1, .ref m2, .int oa, .int ta, .ref mt, .ref mk, .ref mr, .ref ml, .ref mq])), (m1, .inl (k5, 11, .inl u1)), (m2, .inl (k6, 11, .inl u2)), (mt, .inl (k7, 121, .inl u3))]) [0, 1, 2, 3] rfl) (hK.sub (tys' := [(k5, .int), (k6, .int), (k7, .int), (k1, .long), (k2, .int)]) [0, 1, 2, 5, 6] rfl) hNw)⟩ rfl rfl hl.1 rfl (lv_room (Nat.le_of_ble_eq_true rfl)) dX10_candidateMany_99 ⟨Nat.le_of_ble_eq_true rfl, Nat.le_of_ble_eq_true rfl⟩) hS (fun q _ h => hF q h) hF (fun r_6 u_10 t_9 H_7 locs_8 ht hvm hr_6 hB hz1 hk1 hS => ?_)
              obtain ⟨o2_11, q2_12, g1_13, g2_14, g3_15⟩ := u_10
              dsimp only at hr_6 hB
              replace hB : va_P D vwCl [(mo, .inr (9, [.int th, .int (nI n), .ref mw, .ref mct, .ref mp, .ref mnm, .ref m1, .ref m2, .int o2_11, .int q2_12, .ref mt, .ref mk, .ref mr, .ref ml, .ref mq])), (m1, .inl (k5, 11, .inl g1_13)), (m2, .inl (k6, 11, .inl g2_14)), (mt, .inl (k7, 121, .inl g3_15))] H_7 := by rw [← ht]; exact hB
              obtain ⟨hP, hD⟩ := q_join (wc := [(mo, .inr (9, [.int th, .int (nI n), .ref mw, .ref mct, .ref mp, .ref mnm, .ref m1, .ref m2, .int oa, .int ta, .ref mt, .ref mk, .ref mr, .ref ml, .ref mq])), (m1, .inl (k5, 11, .inl u1)), (m2, .inl (k6, 11, .inl u2)), (mt, .inl (k7, 121, .inl u3))]) (w1 := [(mo, .inr (9, [.int th, .int (nI n), .ref mw, .ref mct, .ref mp, .ref mnm, .ref m1, .ref m2, .int o2_11, .int q2_12, .ref mt, .ref mk, .ref mr, .ref ml, .ref mq])), (m1, .inl (k5, 11, .inl g1_13)), (m2, .inl (k6, 11, .inl g2_14)), (mt, .inl (k7, 121, .inl g3_15))]) (ws' := [(mo, .inr (9, [.int th, .int (nI n), .ref mw, .ref mct, .ref mp, .ref mnm, .ref m1, .ref m2, .int o2_11, .int q2_12, .ref mt, .ref mk, .ref mr, .ref ml, .ref mq])), (m1, .inl (k5, 11, .inl g1_13)), (m2, .inl (k6, 11, .inl g2_14)), (mt, .inl (k7, 121, .inl g3_15)), (ml, .inl (k10, 64, .inr (.inl l2))), (mq, .inl (k11, 64, .inr (.inl q1)))]) [0, 1, 2, 3] hP hD rfl rfl hk1 hB rfl
              have hR := q_ro hR0 hna hS
              subst hr_6
              refine q_ifb_ne (tgt := 109) hx hb dX10_candidateMany_102 (by decide) (fun c_102 => ?_) (fun c_102 => ?_)
              · skip
                refine lv_iconst (v := nI 0) hx hb dX10_candidateMany_109 (by decide) ?_
                exact hcut_110 (0, o2_11, q2_12, g1_13, g2_14, g3_15) _ _ _ _ ⟨(cnt_f (by simp only [decide_eq_true_eq]; exact fun h9 => h9.2 ⟨by omega, c_102⟩)).symm, hP, hD, hS, (lv_sub hl [0, 1, 2, 3, 4, 5, 6, 7] rfl), rfl⟩
              · skip
                refine lv_iconst (v := nI 1) hx hb dX10_candidateMany_105 (by decide) ?_
                refine lv_goto (tgt := 110) hx hb dX10_candidateMany_106 (by decide) ?_
                exact hcut_110 (1, o2_11, q2_12, g1_13, g2_14, g3_15) _ _ _ _ ⟨(cnt_t (by simp only [decide_eq_true_eq]; exact ⟨hbv.mp (by omega), fun h9 => c_102 h9.2⟩)).symm, hP, hD, hS, (lv_sub hl [0, 1, 2, 3, 4, 5, 6, 7] rfl), rfl⟩
      · intro hcut_80
        refine q_if_le (a := ct i) (tgt := 79) hx hb dX10_candidateMany_60 (by decide) (hcb i (by omega)) (fun c_60 => ?_) (fun c_60 => ?_)
        · skip
          refine lv_iconst (v := nI 0) hx hb dX10_candidateMany_79 (by decide) ?_
          exact hcut_80 (0, l1) _ _ _ _ ⟨(by omega), ⟨fun h9 => by omega, fun h9 => by have := h9.1; omega⟩, hP, hD, hS, (lv_sub hl [0, 1, 2, 3, 4, 5, 6] rfl), rfl⟩
        · skip
          refine lv_aload_n hx hb dX10_candidateMany_63 rfl (lv_at hl 3 rfl) ?_
          refine lv_iload hx hb dX10_candidateMany_64 (lv_at hl 0 rfl) ?_
          refine lv_iload_n hx hb dX10_candidateMany_66 rfl (lv_at hl 5 rfl) ?_
          refine lv_iload hx hb dX10_candidateMany_67 (lv_at hl 2 rfl) ?_
          have hF := va_free (wc := [(ml, .inl (k10, 64, .inr (.inl l1)))]) hD hS hA [4] rfl
          refine va_calli (va_runV (As := [.int (nI i), .int (nI k), .int (nI (List.length (nbl k a)))]) (rest := []) ⟨hx, hb, hml, hown, hts⟩ (c_X10_meets (l := l) (D := D) (mo := mo) (mw := mw) (mct := mct) (mp := mp) (mnm := mnm) (m1 := m1) (m2 := m2) (mt := mt) (mk := mk) (mr := mr) (ml := ml) (mq := mq) (k1 := k1) (k10 := k10) (k11 := k11) (th := th) (n := n) (om := oa) (tm := ta) (wd := wd) (fl := l1) (fq := q1) (R := nbl k a) (i := i) (k := k) (sz := H.size) (hnd := (q_nds hnd [4, 0, 6, 5] rfl rfl)) (hi4 := by omega) (hga := hgw i (by omega)) (hk3 := hk3) (hQ := hQ) (hQb := lpl_bnd hwa _) (hQl := hn56)) (cwV 3 hts gX10_candidateMany_X10_meets rfl rfl rfl (by decide +kernel) ⟨Nat.le_of_ble_eq_true rfl, Nat.le_of_ble_eq_true rfl⟩) ⟨qW_blind, (va_recv hK hP (ci := 9) (q0 := 0) rfl rfl), (qW_of (show va_P D vwCl [(mo, .inr (9, [.int th, .int (nI n), .ref mw, .ref mct, .ref mp, .ref mnm, .ref m1, .ref m2, .int oa, .int ta, .ref mt, .ref mk, .ref mr, .ref ml, .ref mq])), (mw, .inl (k1, 40, .inr (.inl (fun k9 => lN (wd k9))))), (mq, .inl (k11, 64, .inr (.inl q1)))] _ from (va_P.app (hP.sub (ws' := [(mo, .inr (9, [.int th, .int (nI n), .ref mw, .ref mct, .ref mp, .ref mnm, .ref m1, .ref m2, .int oa, .int ta, .ref mt, .ref mk, .ref mr, .ref ml, .ref mq]))]) [0] rfl) (va_P.app (hR.sub (ws' := [(mw, .inl (k1, 40, .inr (.inl (fun k9 => lN (wd k9)))))]) [0] rfl) (hP.sub (ws' := [(mq, .inl (k11, 64, .inr (.inl q1)))]) [5] rfl)))) (hP.sub (ws' := [(ml, .inl (k10, 64, .inr (.inl l1)))]) [4] rfl) (hK.sub (tys' := [(k10, .long), (k1, .long), (k11, .long)]) [3, 5, 4] rfl) hNw)⟩ rfl rfl hl.1 rfl (lv_room (Nat.le_of_ble_eq_true rfl)) dX10_candidateMany_69 ⟨Nat.le_of_ble_eq_true rfl, Nat.le_of_ble_eq_true rfl⟩) hS (fun q _ h => hF q h) hF (fun r_16 u_20 t_19 H_17 locs_18 ht hvm hr_16 hB hz1 hk1 hS => ?_)
          obtain ⟨g5_21, rfl⟩ : ∃ z, z = u_20 := ⟨_, rfl⟩
          replace hB : va_P D vwCl [(ml, .inl (k10, 64, .inr (.inl g5_21)))] H_17 := by rw [← ht]; exact hB
          obtain ⟨hP, hD⟩ := q_join (wc := [(ml, .inl (k10, 64, .inr (.inl l1)))]) (w1 := [(ml, .inl (k10, 64, .inr (.inl g5_21)))]) (ws' := [(mo, .inr (9, [.int th, .int (nI n), .ref mw, .ref mct, .ref mp, .ref mnm, .ref m1, .ref m2, .int oa, .int ta, .ref mt, .ref mk, .ref mr, .ref ml, .ref mq])), (m1, .inl (k5, 11, .inl u1)), (m2, .inl (k6, 11, .inl u2)), (mt, .inl (k7, 121, .inl u3)), (ml, .inl (k10, 64, .inr (.inl g5_21))), (mq, .inl (k11, 64, .inr (.inl q1)))]) [4] hP hD rfl rfl hk1 hB rfl
          have hR := q_ro hR0 hna hS
          obtain ⟨rfl, f_r_16⟩ := hr_16
          refine q_ifb_eq (tgt := 79) hx hb dX10_candidateMany_72 (by decide) (fun c_72 => ?_) (fun c_72 => ?_)
          · skip
            refine lv_iconst (v := nI 0) hx hb dX10_candidateMany_79 (by decide) ?_
            exact hcut_80 (0, g5_21) _ _ _ _ ⟨(by omega), ⟨fun h9 => by omega, fun h9 => absurd h9.2 c_72⟩, hP, hD, hS, (lv_sub hl [0, 1, 2, 3, 4, 5, 6] rfl), rfl⟩
          · skip
            refine lv_iconst (v := nI 1) hx hb dX10_candidateMany_75 (by decide) ?_
            refine lv_goto (tgt := 80) hx hb dX10_candidateMany_76 (by decide) ?_
            exact hcut_80 (1, g5_21) _ _ _ _ ⟨(by omega), ⟨fun _ => ⟨by omega, c_72⟩, fun _ => rfl⟩, hP, hD, hS, (lv_sub hl [0, 1, 2, 3, 4, 5, 6] rfl), rfl⟩
  · skip
    refine lv_aload_n hx hb dX10_candidateMany_18 rfl (lv_at hl 2 rfl) ?_
    refine va_get (D := D) (own := RX10) (ref := "FuzzyFensModel") (ci := 9) (v := .ref mq) (C := RX10) (T := TX10) (N := 15) hx hb hts iX10_candidateMany_X10 hown hK hP 0 rfl rfl 14 (by decide) (hts (.fieldLink RX10 41 "FuzzyFensModel" "right" "[J") (List.mem_of_getElem? (i := 1) rfl)) (fun _ h9 => h9) rfl dX10_candidateMany_19 ?_
    refine lv_iload hx hb dX10_candidateMany_22 (lv_at hl 0 rfl) ?_
    refine lv_aload_n hx hb dX10_candidateMany_24 rfl (lv_at hl 2 rfl) ?_
    refine va_get (D := D) (own := RX10) (ref := "FuzzyFensModel") (ci := 9) (v := .ref ml) (C := RX10) (T := TX10) (N := 15) hx hb hts iX10_candidateMany_X10 hown hK hP 0 rfl rfl 13 (by decide) (hts (.fieldLink RX10 38 "FuzzyFensModel" "left" "[J") (List.mem_of_getElem? (i := 2) rfl)) (fun _ h9 => h9) rfl dX10_candidateMany_25 ?_
    refine lv_iload hx hb dX10_candidateMany_28 (lv_at hl 0 rfl) ?_
    refine va_lald (D := D) hx hb hK hP 4 3 rfl rfl (vp_in_nI (n := j) (N := 64) (by omega) (by decide)) dX10_candidateMany_30 ?_
    rw [nI_clamp (n := j) (by omega)]
    refine q_cvl (show (s5 j) = (lN (List.getD (nbl k a) j 0)) from hcts j (by omega)) ?_
    refine va_last (D := D) hx hb hK hP hD hS 5 4 rfl rfl (vp_in_nI (n := j) (N := 64) (by omega) (by decide)) dX10_candidateMany_31 (fun H_22 locs_23 hP hD hS => ?_)
    rw [nI_clamp (n := j) (by omega)] at hP hD
    have hP : va_P D vwCl [(mo, .inr (9, [.int th, .int (nI n), .ref mw, .ref mct, .ref mp, .ref mnm, .ref m1, .ref m2, .int om, .int tm, .ref mt, .ref mk, .ref mr, .ref ml, .ref mq])), (m1, .inl (k5, 11, .inl f1)), (m2, .inl (k6, 11, .inl f2)), (mt, .inl (k7, 121, .inl ft)), (ml, .inl (k10, 64, .inr (.inl s5))), (mq, .inl (k11, 64, .inr (.inl (vp_updL q1 j (lN (List.getD (nbl k a) j 0))))))] H_22 := hP
    have hD : va_D A [(mo, .inr (9, [.int th, .int (nI n), .ref mw, .ref mct, .ref mp, .ref mnm, .ref m1, .ref m2, .int om, .int tm, .ref mt, .ref mk, .ref mr, .ref ml, .ref mq])), (m1, .inl (k5, 11, .inl f1)), (m2, .inl (k6, 11, .inl f2)), (mt, .inl (k7, 121, .inl ft)), (ml, .inl (k10, 64, .inr (.inl s5))), (mq, .inl (k11, 64, .inr (.inl (vp_updL q1 j (lN (List.getD (nbl k a) j 0))))))] := hD
    have hR := q_ro hR0 hna hS
    refine lv_iinc (v := nI (j + 1)) (lv' := [(6, .int (nI (j + 1))), (5, .int (nI (List.length (nbl k a)))), (0, .ref mo), (1, .long (lN a)), (3, .int (nI k)), (4, .int (nI fB))]) hx hb dX10_candidateMany_32 hl (k := 0) rfl (q_inc (k := 1) (by omega)) (by decide) rfl (fun ls hl => ?_)
    refine lv_goto (tgt := 11) hx hb dX10_candidateMany_35 (by decide) ?_
    exact ih_11 (j + 1, vp_updL q1 j (lN (List.getD (nbl k a) j 0))) _ _ _ ⟨(by omega), (fun j9 h9 => by by_cases e : j9 = j; (rw [e, pk_uLs]); (rw [pk_uLn e]; exact hq1 j9 (by omega))), hP, hD, hS, (lv_sub hl [0, 1, 2, 3, 4, 5] rfl)⟩ (by show List.length (nbl k a) - (j + 1) < List.length (nbl k a) - j; omega)

set_option maxHeartbeats 4000000 in
set_option maxRecDepth 100000 in
/-- candidates -/
theorem c_X10_candidates (l : Launch) (D : va_G) (sz : Nat) (mo : Nat) (mw : Nat) (mct : Nat) (mp : Nat) (mnm : Nat) (m1 : Nat) (m2 : Nat) (mt : Nat) (mk : Nat) (mr : Nat) (ml : Nat) (mq : Nat) (k1 : ClassId) (k2 : ClassId) (k5 : ClassId) (k6 : ClassId) (k7 : ClassId) (k10 : ClassId) (k11 : ClassId) (th : Int32) (n : Nat) (om : Int32) (tm : Int32) (f1 : Nat → Int32) (f2 : Nat → Int32) (ft : Nat → Int32) (fl : Nat → Int64) (fq : Nat → Int64) (wd : Nat → Nat) (ct : Nat → Nat) (a : Nat) (x9 : Int32) (hnd : ([mo, m1, m2, mt, ml, mq] ++ [mw, mct]).Nodup) (ha : a < 2 ^ 64) (hn40 : n ≤ 40) (hgw : ∀ k, k < n → gw (wd k)) (hcb : ∀ k, k < n → ct k < 2 ^ 31) : Met l yX10_candidates wsX10_candidates { frames := 6, cells := 0, slots := 0, locals := 161 } (va_Pc [.ref mo, .long (lN a), .int x9] (qW D sz ([(mw, .inl (k1, 40, .inr (.inl (fun k9 => lN (wd k9))))), (mct, .inl (k2, 40, .inl (fun k9 => nI (ct k9))))]) [(mo, .inr (9, [.int th, .int (nI n), .ref mw, .ref mct, .ref mp, .ref mnm, .ref m1, .ref m2, .int om, .int tm, .ref mt, .ref mk, .ref mr, .ref ml, .ref mq])), (m1, .inl (k5, 11, .inl f1)), (m2, .inl (k6, 11, .inl f2)), (mt, .inl (k7, 121, .inl ft)), (ml, .inl (k10, 64, .inr (.inl fl))), (mq, .inl (k11, 64, .inr (.inl fq)))] [(k5, .int), (k6, .int), (k7, .int), (k10, .long), (k11, .long), (k1, .long), (k2, .int)])) (va_Qi (fun (rv : Int32) (uv : (Int32) × (Int32) × (Int32) × (Nat → Int32) × (Nat → Int32) × (Nat → Int32) × (Nat → Int64) × (Nat → Int64)) => uv.1 = nI (if gw a ∧ 0 ≤ x9 ∧ x9 ≤ nI 2 then 0 else 1) ∧ (gw a ∧ 0 ≤ x9 ∧ x9 ≤ nI 2 → rv = nI (cnt (fun i => decide (cdp wd ct a (kz x9) 0 i)) n))) (fun (uv : (Int32) × (Int32) × (Int32) × (Nat → Int32) × (Nat → Int32) × (Nat → Int32) × (Nat → Int64) × (Nat → Int64)) (tv : State) => va_P D vwCl [(mo, .inr (9, [.int uv.1, .int (nI n), .ref mw, .ref mct, .ref mp, .ref mnm, .ref m1, .ref m2, .int uv.2.1, .int uv.2.2.1, .ref mt, .ref mk, .ref mr, .ref ml, .ref mq])), (m1, .inl (k5, 11, .inl uv.2.2.2.1)), (m2, .inl (k6, 11, .inl uv.2.2.2.2.1)), (mt, .inl (k7, 121, .inl uv.2.2.2.2.2.1)), (ml, .inl (k10, 64, .inr (.inl uv.2.2.2.2.2.2.1))), (mq, .inl (k11, 64, .inr (.inl uv.2.2.2.2.2.2.2)))] tv.heap) (va_A [(mo, .inr (9, [.int th, .int (nI n), .ref mw, .ref mct, .ref mp, .ref mnm, .ref m1, .ref m2, .int om, .int tm, .ref mt, .ref mk, .ref mr, .ref ml, .ref mq])), (m1, .inl (k5, 11, .inl f1)), (m2, .inl (k6, 11, .inl f2)), (mt, .inl (k7, 121, .inl ft)), (ml, .inl (k10, 64, .inr (.inl fl))), (mq, .inl (k11, 64, .inr (.inl fq)))] sz)) 0 0 (va_A [(mo, .inr (9, [.int th, .int (nI n), .ref mw, .ref mct, .ref mp, .ref mnm, .ref m1, .ref m2, .int om, .int tm, .ref mt, .ref mk, .ref mr, .ref ml, .ref mq])), (m1, .inl (k5, 11, .inl f1)), (m2, .inl (k6, 11, .inl f2)), (mt, .inl (k7, 121, .inl ft)), (ml, .inl (k10, 64, .inr (.inl fl))), (mq, .inl (k11, 64, .inr (.inl fq)))] sz) := by
  refine Met.ofW (cc := cX10_candidates) (maxL := 4) (ret := (some .int)) (by decide) rfl ?_
  intro pM eM s mi9 argsM belowM methM cM sM B hml hv
  obtain ⟨rfl, hsz, hR0, hP, hK, hNw⟩ := hv
  have hx := B.exec
  have hb := B.bytes
  have hr := B.returns
  have hts := atoms_spec (ws := wsX10_candidates) B.pre
  have hown : s.vm.findClass RX10 = some mi9.cls := findClass_of_methodNamed B.named
  have hlocks := B.notSynchronized
  subst hsz
  have hna := q_na (RW := [(mo, .inr (9, [.int th, .int (nI n), .ref mw, .ref mct, .ref mp, .ref mnm, .ref m1, .ref m2, .int om, .int tm, .ref mt, .ref mk, .ref mr, .ref ml, .ref mq])), (m1, .inl (k5, 11, .inl f1)), (m2, .inl (k6, 11, .inl f2)), (mt, .inl (k7, 121, .inl ft)), (ml, .inl (k10, 64, .inr (.inl fl))), (mq, .inl (k11, 64, .inr (.inl fq)))]) (RO := [(mw, .inl (k1, 40, .inr (.inl (fun k9 => lN (wd k9))))), (mct, .inl (k2, 40, .inl (fun k9 => nI (ct k9))))]) hnd rfl rfl hR0
  have hD := q_D (RW := [(mo, .inr (9, [.int th, .int (nI n), .ref mw, .ref mct, .ref mp, .ref mnm, .ref m1, .ref m2, .int om, .int tm, .ref mt, .ref mk, .ref mr, .ref ml, .ref mq])), (m1, .inl (k5, 11, .inl f1)), (m2, .inl (k6, 11, .inl f2)), (mt, .inl (k7, 121, .inl ft)), (ml, .inl (k10, 64, .inr (.inl fl))), (mq, .inl (k11, 64, .inr (.inl fq)))]) (sz := s.heap.size) hnd rfl
  have hA : ∀ q : Nat, s.heap.size ≤ q → va_A [(mo, .inr (9, [.int th, .int (nI n), .ref mw, .ref mct, .ref mp, .ref mnm, .ref m1, .ref m2, .int om, .int tm, .ref mt, .ref mk, .ref mr, .ref ml, .ref mq])), (m1, .inl (k5, 11, .inl f1)), (m2, .inl (k6, 11, .inl f2)), (mt, .inl (k7, 121, .inl ft)), (ml, .inl (k10, 64, .inr (.inl fl))), (mq, .inl (k11, 64, .inr (.inl fq)))] s.heap.size q := fun q h => Or.inr h
  generalize hAe : va_A [(mo, .inr (9, [.int th, .int (nI n), .ref mw, .ref mct, .ref mp, .ref mnm, .ref m1, .ref m2, .int om, .int tm, .ref mt, .ref mk, .ref mr, .ref ml, .ref mq])), (m1, .inl (k5, 11, .inl f1)), (m2, .inl (k6, 11, .inl f2)), (mt, .inl (k7, 121, .inl ft)), (ml, .inl (k10, 64, .inr (.inl fl))), (mq, .inl (k11, 64, .inr (.inl fq)))] s.heap.size = A at hna hD hA ⊢
  have hS : va_S A s.heap s.heap [] := va_S.rf
  have hR := hR0
  have hP : va_P D vwCl [(mo, .inr (9, [.int th, .int (nI n), .ref mw, .ref mct, .ref mp, .ref mnm, .ref m1, .ref m2, .int om, .int tm, .ref mt, .ref mk, .ref mr, .ref ml, .ref mq])), (m1, .inl (k5, 11, .inl f1)), (m2, .inl (k6, 11, .inl f2)), (mt, .inl (k7, 121, .inl ft)), (ml, .inl (k10, 64, .inr (.inl fl))), (mq, .inl (k11, 64, .inr (.inl fq)))] s.heap := hP
  have hl := lv_entry ([.ref mo, .long (lN a), .int x9]) (n := 4) (Nat.le_of_ble_eq_true rfl)
  rw [lg_entry_eq]
  generalize (lg_sl ([.ref mo, .long (lN a), .int x9]) ++ List.replicate (4 - (lg_sl ([.ref mo, .long (lN a), .int x9])).length) Slot.unset).toArray = ls at hl ⊢
  have hl : lv_has ls 4 [(0, .ref mo), (1, .long (lN a)), (3, .int x9)] := hl
  refine lv_aload_n hx hb dX10_candidates_0 rfl (lv_at hl 0 rfl) ?_
  refine lv_lload_n hx hb dX10_candidates_1 rfl (lv_at hl 1 rfl) ?_
  refine lv_iload_n hx hb dX10_candidates_2 rfl (lv_at hl 2 rfl) ?_
  refine lv_iconst (v := nI 2) hx hb dX10_candidates_3 (by decide) ?_
  refine vp_callSi (W.runS (As := [.long (lN a), .int x9, .int (nI 2)]) (rest := [.ref mo]) ⟨hx, hb, hml, hown, hts⟩ (c_X10_isSearch (l := l) (D := D) (a := a) (x9 := x9) (mm := 2) (ha := ha)) (va_cwS 3 hts gX10_candidates_X10_isSearch rfl rfl rfl (by decide +kernel) ⟨Nat.le_of_ble_eq_true rfl, Nat.le_of_ble_eq_true rfl⟩) ⟨qP_blind, (qP_of (q_Pof (fun _ h => absurd h List.not_mem_nil)) (hK.sub (tys' := []) [] rfl) hNw)⟩ rfl rfl hl.1 rfl (lv_room (Nat.le_of_ble_eq_true rfl)) dX10_candidates_4 ⟨Nat.le_of_ble_eq_true rfl, Nat.le_of_ble_eq_true rfl⟩) (fun r_1 hr_1 => ?_)
  subst hr_1
  refine q_ifb_eq (tgt := 14) hx hb dX10_candidates_7 (by decide) (fun c_7 => ?_) (fun c_7 => ?_)
  · skip
    refine lv_iconst (v := nI 1) hx hb dX10_candidates_14 (by decide) ?_
    have hF := va_free (wc := [(mo, .inr (9, [.int th, .int (nI n), .ref mw, .ref mct, .ref mp, .ref mnm, .ref m1, .ref m2, .int om, .int tm, .ref mt, .ref mk, .ref mr, .ref ml, .ref mq]))]) hD hS hA [0] rfl
    refine va_calli (va_runV (As := [.int (nI 1)]) (rest := []) ⟨hx, hb, hml, hown, hts⟩ (c_X10_goesWell (l := l) (D := D) (mo := mo) (mw := mw) (mct := mct) (mp := mp) (mnm := mnm) (m1 := m1) (m2 := m2) (mt := mt) (mk := mk) (mr := mr) (ml := ml) (mq := mq) (th := th) (n := n) (om := om) (tm := tm) (x9 := 1) (sz := s.heap.size) (hnd := (q_nds hnd [0] rfl rfl)) (hx9 := by omega)) (cwV 1 hts gX10_candidates_X10_goesWell rfl rfl rfl (by decide +kernel) ⟨Nat.le_of_ble_eq_true rfl, Nat.le_of_ble_eq_true rfl⟩) ⟨qW_blind, (va_recv hK hP (ci := 9) (q0 := 0) rfl rfl), (qW_of (q_Pof (fun _ h => absurd h List.not_mem_nil)) (hP.sub (ws' := [(mo, .inr (9, [.int th, .int (nI n), .ref mw, .ref mct, .ref mp, .ref mnm, .ref m1, .ref m2, .int om, .int tm, .ref mt, .ref mk, .ref mr, .ref ml, .ref mq]))]) [0] rfl) (hK.sub (tys' := []) [] rfl) hNw)⟩ rfl rfl hl.1 rfl (lv_room (Nat.le_of_ble_eq_true rfl)) dX10_candidates_15 ⟨Nat.le_of_ble_eq_true rfl, Nat.le_of_ble_eq_true rfl⟩) hS (fun q _ h => hF q h) hF (fun r_2 u_6 t_5 H_3 locs_4 ht hvm hr_2 hB hz1 hk1 hS => ?_)
    replace hB : va_P D vwCl [(mo, .inr (9, [.int (nI 1), .int (nI n), .ref mw, .ref mct, .ref mp, .ref mnm, .ref m1, .ref m2, .int om, .int tm, .ref mt, .ref mk, .ref mr, .ref ml, .ref mq]))] H_3 := by rw [← ht]; exact hB
    obtain ⟨hP, hD⟩ := q_join (wc := [(mo, .inr (9, [.int th, .int (nI n), .ref mw, .ref mct, .ref mp, .ref mnm, .ref m1, .ref m2, .int om, .int tm, .ref mt, .ref mk, .ref mr, .ref ml, .ref mq]))]) (w1 := [(mo, .inr (9, [.int (nI 1), .int (nI n), .ref mw, .ref mct, .ref mp, .ref mnm, .ref m1, .ref m2, .int om, .int tm, .ref mt, .ref mk, .ref mr, .ref ml, .ref mq]))]) (ws' := [(mo, .inr (9, [.int (nI 1), .int (nI n), .ref mw, .ref mct, .ref mp, .ref mnm, .ref m1, .ref m2, .int om, .int tm, .ref mt, .ref mk, .ref mr, .ref ml, .ref mq])), (m1, .inl (k5, 11, .inl f1)), (m2, .inl (k6, 11, .inl f2)), (mt, .inl (k7, 121, .inl ft)), (ml, .inl (k10, 64, .inr (.inl fl))), (mq, .inl (k11, 64, .inr (.inl fq)))]) [0] hP hD rfl rfl hk1 hB rfl
    have hR := q_ro hR0 hna hS
    subst hr_2
    refine q_ifb_eq (tgt := 31) hx hb dX10_candidates_18 (by decide) (fun _ => ?_) (fun c9 => absurd c9 (by decide))
    refine lv_iconst (v := nI 0) hx hb dX10_candidates_31 (by decide) ?_
    exact W.iret (v := nI 0) hx hb hr (fun t9 ht hW => ⟨⟨nI 0, (nI 1, om, tm, f1, f2, ft, fl, fq), rfl, ⟨(by rw [if_neg c_7]), (fun h9 => absurd h9 c_7)⟩, by show va_P D vwCl _ t9.heap; rw [ht]; exact hP⟩, hS.F ht⟩) hS.2.2 dX10_candidates_32
  · skip
    refine lv_iconst (v := nI 0) hx hb dX10_candidates_10 (by decide) ?_
    refine lv_goto (tgt := 15) hx hb dX10_candidates_11 (by decide) ?_
    have hF := va_free (wc := [(mo, .inr (9, [.int th, .int (nI n), .ref mw, .ref mct, .ref mp, .ref mnm, .ref m1, .ref m2, .int om, .int tm, .ref mt, .ref mk, .ref mr, .ref ml, .ref mq]))]) hD hS hA [0] rfl
    refine va_calli (va_runV (As := [.int (nI 0)]) (rest := []) ⟨hx, hb, hml, hown, hts⟩ (c_X10_goesWell (l := l) (D := D) (mo := mo) (mw := mw) (mct := mct) (mp := mp) (mnm := mnm) (m1 := m1) (m2 := m2) (mt := mt) (mk := mk) (mr := mr) (ml := ml) (mq := mq) (th := th) (n := n) (om := om) (tm := tm) (x9 := 0) (sz := s.heap.size) (hnd := (q_nds hnd [0] rfl rfl)) (hx9 := by omega)) (cwV 1 hts gX10_candidates_X10_goesWell rfl rfl rfl (by decide +kernel) ⟨Nat.le_of_ble_eq_true rfl, Nat.le_of_ble_eq_true rfl⟩) ⟨qW_blind, (va_recv hK hP (ci := 9) (q0 := 0) rfl rfl), (qW_of (q_Pof (fun _ h => absurd h List.not_mem_nil)) (hP.sub (ws' := [(mo, .inr (9, [.int th, .int (nI n), .ref mw, .ref mct, .ref mp, .ref mnm, .ref m1, .ref m2, .int om, .int tm, .ref mt, .ref mk, .ref mr, .ref ml, .ref mq]))]) [0] rfl) (hK.sub (tys' := []) [] rfl) hNw)⟩ rfl rfl hl.1 rfl (lv_room (Nat.le_of_ble_eq_true rfl)) dX10_candidates_15 ⟨Nat.le_of_ble_eq_true rfl, Nat.le_of_ble_eq_true rfl⟩) hS (fun q _ h => hF q h) hF (fun r_7 u_11 t_10 H_8 locs_9 ht hvm hr_7 hB hz1 hk1 hS => ?_)
    replace hB : va_P D vwCl [(mo, .inr (9, [.int (nI 0), .int (nI n), .ref mw, .ref mct, .ref mp, .ref mnm, .ref m1, .ref m2, .int om, .int tm, .ref mt, .ref mk, .ref mr, .ref ml, .ref mq]))] H_8 := by rw [← ht]; exact hB
    obtain ⟨hP, hD⟩ := q_join (wc := [(mo, .inr (9, [.int th, .int (nI n), .ref mw, .ref mct, .ref mp, .ref mnm, .ref m1, .ref m2, .int om, .int tm, .ref mt, .ref mk, .ref mr, .ref ml, .ref mq]))]) (w1 := [(mo, .inr (9, [.int (nI 0), .int (nI n), .ref mw, .ref mct, .ref mp, .ref mnm, .ref m1, .ref m2, .int om, .int tm, .ref mt, .ref mk, .ref mr, .ref ml, .ref mq]))]) (ws' := [(mo, .inr (9, [.int (nI 0), .int (nI n), .ref mw, .ref mct, .ref mp, .ref mnm, .ref m1, .ref m2, .int om, .int tm, .ref mt, .ref mk, .ref mr, .ref ml, .ref mq])), (m1, .inl (k5, 11, .inl f1)), (m2, .inl (k6, 11, .inl f2)), (mt, .inl (k7, 121, .inl ft)), (ml, .inl (k10, 64, .inr (.inl fl))), (mq, .inl (k11, 64, .inr (.inl fq)))]) [0] hP hD rfl rfl hk1 hB rfl
    have hR := q_ro hR0 hna hS
    subst hr_7
    refine q_ifb_eq (tgt := 31) hx hb dX10_candidates_18 (by decide) (fun c9 => absurd (by decide) c9) (fun _ => ?_)
    have hlx := kz_le (by decide) c_7.2.1 c_7.2.2
    have hl : lv_has ls 4 [(0, .ref mo), (1, .long (lN a)), (3, .int (nI (kz x9)))] := (congrArg (fun v9 => lv_has ls 4 [(0, .ref mo), (1, .long (lN a)), (3, .int v9)]) (kz_of c_7.2.1)).mp hl
    refine lv_aload_n hx hb dX10_candidates_21 rfl (lv_at hl 0 rfl) ?_
    refine lv_lload_n hx hb dX10_candidates_22 rfl (lv_at hl 1 rfl) ?_
    refine lv_iload_n hx hb dX10_candidates_23 rfl (lv_at hl 2 rfl) ?_
    refine lv_iconst (v := nI 0) hx hb dX10_candidates_24 (by decide) ?_
    have hF := va_free (wc := [(mo, .inr (9, [.int (nI 0), .int (nI n), .ref mw, .ref mct, .ref mp, .ref mnm, .ref m1, .ref m2, .int om, .int tm, .ref mt, .ref mk, .ref mr, .ref ml, .ref mq])), (m1, .inl (k5, 11, .inl f1)), (m2, .inl (k6, 11, .inl f2)), (mt, .inl (k7, 121, .inl ft)), (ml, .inl (k10, 64, .inr (.inl fl))), (mq, .inl (k11, 64, .inr (.inl fq)))]) hD hS hA [0, 1, 2, 3, 4, 5] rfl
    refine va_calli (va_runV (As := [.long (lN a), .int (nI (kz x9)), .int (nI 0)]) (rest := []) ⟨hx, hb, hml, hown, hts⟩ (c_X10_candidateMany (l := l) (D := D) (mo := mo) (mw := mw) (mct := mct) (mp := mp) (mnm := mnm) (m1 := m1) (m2 := m2) (mt := mt) (mk := mk) (mr := mr) (ml := ml) (mq := mq) (k1 := k1) (k2 := k2) (k5 := k5) (k6 := k6) (k7 := k7) (k10 := k10) (k11 := k11) (th := nI 0) (n := n) (om := om) (tm := tm) (f1 := f1) (f2 := f2) (ft := ft) (fl := fl) (fq := fq) (wd := wd) (ct := ct) (a := a) (k := kz x9) (fB := 0) (sz := H_8.size) (hnd := (q_nds hnd [0, 1, 2, 3, 4, 5, 6, 7] rfl rfl)) (hga := c_7.1) (hn40 := hn40) (hgw := by omega) (hcb := by omega) (hk3 := by omega) (hfB := by decide)) (cwV 3 hts gX10_candidates_X10_candidateMany rfl rfl rfl (by decide +kernel) ⟨Nat.le_of_ble_eq_true rfl, Nat.le_of_ble_eq_true rfl⟩) ⟨qW_blind, (va_recv hK hP (ci := 9) (q0 := 0) rfl rfl), (qW_of (hR.sub (ws' := [(mw, .inl (k1, 40, .inr (.inl (fun k9 => lN (wd k9))))), (mct, .inl (k2, 40, .inl (fun k9 => nI (ct k9))))]) [0, 1] rfl) (hP.sub (ws' := [(mo, .inr (9, [.int (nI 0), .int (nI n), .ref mw, .ref mct, .ref mp, .ref mnm, .ref m1, .ref m2, .int om, .int tm, .ref mt, .ref mk, .ref mr, .ref ml, .ref mq])), (m1, .inl (k5, 11, .inl f1)), (m2, .inl (k6, 11, .inl f2)), (mt, .inl (k7, 121, .inl ft)), (ml, .inl (k10, 64, .inr (.inl fl))), (mq, .inl (k11, 64, .inr (.inl fq)))]) [0, 1, 2, 3, 4, 5] rfl) (hK.sub (tys' := [(k5, .int), (k6, .int), (k7, .int), (k10, .long), (k11, .long), (k1, .long), (k2, .int)]) [0, 1, 2, 3, 4, 5, 6] rfl) hNw)⟩ rfl rfl hl.1 rfl (lv_room (Nat.le_of_ble_eq_true rfl)) dX10_candidates_25 ⟨Nat.le_of_ble_eq_true rfl, Nat.le_of_ble_eq_true rfl⟩) hS (fun q _ h => hF q h) hF (fun r_12 u_16 t_15 H_13 locs_14 ht hvm hr_12 hB hz1 hk1 hS => ?_)
    obtain ⟨o2_17, q2_18, g1_19, g2_20, g3_21, g5_22, g6_23⟩ := u_16
    dsimp only at hr_12 hB
    replace hB : va_P D vwCl [(mo, .inr (9, [.int (nI 0), .int (nI n), .ref mw, .ref mct, .ref mp, .ref mnm, .ref m1, .ref m2, .int o2_17, .int q2_18, .ref mt, .ref mk, .ref mr, .ref ml, .ref mq])), (m1, .inl (k5, 11, .inl g1_19)), (m2, .inl (k6, 11, .inl g2_20)), (mt, .inl (k7, 121, .inl g3_21)), (ml, .inl (k10, 64, .inr (.inl g5_22))), (mq, .inl (k11, 64, .inr (.inl g6_23)))] H_13 := by rw [← ht]; exact hB
    obtain ⟨hP, hD⟩ := q_join (wc := [(mo, .inr (9, [.int (nI 0), .int (nI n), .ref mw, .ref mct, .ref mp, .ref mnm, .ref m1, .ref m2, .int om, .int tm, .ref mt, .ref mk, .ref mr, .ref ml, .ref mq])), (m1, .inl (k5, 11, .inl f1)), (m2, .inl (k6, 11, .inl f2)), (mt, .inl (k7, 121, .inl ft)), (ml, .inl (k10, 64, .inr (.inl fl))), (mq, .inl (k11, 64, .inr (.inl fq)))]) (w1 := [(mo, .inr (9, [.int (nI 0), .int (nI n), .ref mw, .ref mct, .ref mp, .ref mnm, .ref m1, .ref m2, .int o2_17, .int q2_18, .ref mt, .ref mk, .ref mr, .ref ml, .ref mq])), (m1, .inl (k5, 11, .inl g1_19)), (m2, .inl (k6, 11, .inl g2_20)), (mt, .inl (k7, 121, .inl g3_21)), (ml, .inl (k10, 64, .inr (.inl g5_22))), (mq, .inl (k11, 64, .inr (.inl g6_23)))]) (ws' := [(mo, .inr (9, [.int (nI 0), .int (nI n), .ref mw, .ref mct, .ref mp, .ref mnm, .ref m1, .ref m2, .int o2_17, .int q2_18, .ref mt, .ref mk, .ref mr, .ref ml, .ref mq])), (m1, .inl (k5, 11, .inl g1_19)), (m2, .inl (k6, 11, .inl g2_20)), (mt, .inl (k7, 121, .inl g3_21)), (ml, .inl (k10, 64, .inr (.inl g5_22))), (mq, .inl (k11, 64, .inr (.inl g6_23)))]) [0, 1, 2, 3, 4, 5] hP hD rfl rfl hk1 hB rfl
    have hR := q_ro hR0 hna hS
    subst hr_12
    refine lv_goto (tgt := 32) hx hb dX10_candidates_28 (by decide) ?_
    exact W.iret (v := nI (cnt (fun i => decide (cdp wd ct a (kz x9) 0 i)) n)) hx hb hr (fun t9 ht hW => ⟨⟨nI (cnt (fun i => decide (cdp wd ct a (kz x9) 0 i)) n), (nI 0, o2_17, q2_18, g1_19, g2_20, g3_21, g5_22, g6_23), rfl, ⟨(by rw [if_pos c_7]), (fun _ => rfl)⟩, by show va_P D vwCl _ t9.heap; rw [ht]; exact hP⟩, hS.F ht⟩) hS.2.2 dX10_candidates_32

set_option maxHeartbeats 4000000 in
set_option maxRecDepth 100000 in
/-- falseCandidates -/
theorem c_X10_falseCandidates (l : Launch) (D : va_G) (sz : Nat) (mo : Nat) (mw : Nat) (mct : Nat) (mp : Nat) (mnm : Nat) (m1 : Nat) (m2 : Nat) (mt : Nat) (mk : Nat) (mr : Nat) (ml : Nat) (mq : Nat) (k1 : ClassId) (k2 : ClassId) (k5 : ClassId) (k6 : ClassId) (k7 : ClassId) (k10 : ClassId) (k11 : ClassId) (th : Int32) (n : Nat) (om : Int32) (tm : Int32) (f1 : Nat → Int32) (f2 : Nat → Int32) (ft : Nat → Int32) (fl : Nat → Int64) (fq : Nat → Int64) (wd : Nat → Nat) (ct : Nat → Nat) (a : Nat) (x9 : Int32) (hnd : ([mo, m1, m2, mt, ml, mq] ++ [mw, mct]).Nodup) (ha : a < 2 ^ 64) (hn40 : n ≤ 40) (hgw : ∀ k, k < n → gw (wd k)) (hcb : ∀ k, k < n → ct k < 2 ^ 31) : Met l yX10_falseCandidates wsX10_falseCandidates { frames := 6, cells := 0, slots := 0, locals := 161 } (va_Pc [.ref mo, .long (lN a), .int x9] (qW D sz ([(mw, .inl (k1, 40, .inr (.inl (fun k9 => lN (wd k9))))), (mct, .inl (k2, 40, .inl (fun k9 => nI (ct k9))))]) [(mo, .inr (9, [.int th, .int (nI n), .ref mw, .ref mct, .ref mp, .ref mnm, .ref m1, .ref m2, .int om, .int tm, .ref mt, .ref mk, .ref mr, .ref ml, .ref mq])), (m1, .inl (k5, 11, .inl f1)), (m2, .inl (k6, 11, .inl f2)), (mt, .inl (k7, 121, .inl ft)), (ml, .inl (k10, 64, .inr (.inl fl))), (mq, .inl (k11, 64, .inr (.inl fq)))] [(k5, .int), (k6, .int), (k7, .int), (k10, .long), (k11, .long), (k1, .long), (k2, .int)])) (va_Qi (fun (rv : Int32) (uv : (Int32) × (Int32) × (Int32) × (Nat → Int32) × (Nat → Int32) × (Nat → Int32) × (Nat → Int64) × (Nat → Int64)) => uv.1 = nI (if gw a ∧ 0 ≤ x9 ∧ x9 ≤ nI 2 then 0 else 1) ∧ (gw a ∧ 0 ≤ x9 ∧ x9 ≤ nI 2 → rv = nI (cnt (fun i => decide (cdp wd ct a (kz x9) 1 i)) n))) (fun (uv : (Int32) × (Int32) × (Int32) × (Nat → Int32) × (Nat → Int32) × (Nat → Int32) × (Nat → Int64) × (Nat → Int64)) (tv : State) => va_P D vwCl [(mo, .inr (9, [.int uv.1, .int (nI n), .ref mw, .ref mct, .ref mp, .ref mnm, .ref m1, .ref m2, .int uv.2.1, .int uv.2.2.1, .ref mt, .ref mk, .ref mr, .ref ml, .ref mq])), (m1, .inl (k5, 11, .inl uv.2.2.2.1)), (m2, .inl (k6, 11, .inl uv.2.2.2.2.1)), (mt, .inl (k7, 121, .inl uv.2.2.2.2.2.1)), (ml, .inl (k10, 64, .inr (.inl uv.2.2.2.2.2.2.1))), (mq, .inl (k11, 64, .inr (.inl uv.2.2.2.2.2.2.2)))] tv.heap) (va_A [(mo, .inr (9, [.int th, .int (nI n), .ref mw, .ref mct, .ref mp, .ref mnm, .ref m1, .ref m2, .int om, .int tm, .ref mt, .ref mk, .ref mr, .ref ml, .ref mq])), (m1, .inl (k5, 11, .inl f1)), (m2, .inl (k6, 11, .inl f2)), (mt, .inl (k7, 121, .inl ft)), (ml, .inl (k10, 64, .inr (.inl fl))), (mq, .inl (k11, 64, .inr (.inl fq)))] sz)) 0 0 (va_A [(mo, .inr (9, [.int th, .int (nI n), .ref mw, .ref mct, .ref mp, .ref mnm, .ref m1, .ref m2, .int om, .int tm, .ref mt, .ref mk, .ref mr, .ref ml, .ref mq])), (m1, .inl (k5, 11, .inl f1)), (m2, .inl (k6, 11, .inl f2)), (mt, .inl (k7, 121, .inl ft)), (ml, .inl (k10, 64, .inr (.inl fl))), (mq, .inl (k11, 64, .inr (.inl fq)))] sz) := by
  refine Met.ofW (cc := cX10_falseCandidates) (maxL := 4) (ret := (some .int)) (by decide) rfl ?_
  intro pM eM s mi9 argsM belowM methM cM sM B hml hv
  obtain ⟨rfl, hsz, hR0, hP, hK, hNw⟩ := hv
  have hx := B.exec
  have hb := B.bytes
  have hr := B.returns
  have hts := atoms_spec (ws := wsX10_falseCandidates) B.pre
  have hown : s.vm.findClass RX10 = some mi9.cls := findClass_of_methodNamed B.named
  have hlocks := B.notSynchronized
  subst hsz
  have hna := q_na (RW := [(mo, .inr (9, [.int th, .int (nI n), .ref mw, .ref mct, .ref mp, .ref mnm, .ref m1, .ref m2, .int om, .int tm, .ref mt, .ref mk, .ref mr, .ref ml, .ref mq])), (m1, .inl (k5, 11, .inl f1)), (m2, .inl (k6, 11, .inl f2)), (mt, .inl (k7, 121, .inl ft)), (ml, .inl (k10, 64, .inr (.inl fl))), (mq, .inl (k11, 64, .inr (.inl fq)))]) (RO := [(mw, .inl (k1, 40, .inr (.inl (fun k9 => lN (wd k9))))), (mct, .inl (k2, 40, .inl (fun k9 => nI (ct k9))))]) hnd rfl rfl hR0
  have hD := q_D (RW := [(mo, .inr (9, [.int th, .int (nI n), .ref mw, .ref mct, .ref mp, .ref mnm, .ref m1, .ref m2, .int om, .int tm, .ref mt, .ref mk, .ref mr, .ref ml, .ref mq])), (m1, .inl (k5, 11, .inl f1)), (m2, .inl (k6, 11, .inl f2)), (mt, .inl (k7, 121, .inl ft)), (ml, .inl (k10, 64, .inr (.inl fl))), (mq, .inl (k11, 64, .inr (.inl fq)))]) (sz := s.heap.size) hnd rfl
  have hA : ∀ q : Nat, s.heap.size ≤ q → va_A [(mo, .inr (9, [.int th, .int (nI n), .ref mw, .ref mct, .ref mp, .ref mnm, .ref m1, .ref m2, .int om, .int tm, .ref mt, .ref mk, .ref mr, .ref ml, .ref mq])), (m1, .inl (k5, 11, .inl f1)), (m2, .inl (k6, 11, .inl f2)), (mt, .inl (k7, 121, .inl ft)), (ml, .inl (k10, 64, .inr (.inl fl))), (mq, .inl (k11, 64, .inr (.inl fq)))] s.heap.size q := fun q h => Or.inr h
  generalize hAe : va_A [(mo, .inr (9, [.int th, .int (nI n), .ref mw, .ref mct, .ref mp, .ref mnm, .ref m1, .ref m2, .int om, .int tm, .ref mt, .ref mk, .ref mr, .ref ml, .ref mq])), (m1, .inl (k5, 11, .inl f1)), (m2, .inl (k6, 11, .inl f2)), (mt, .inl (k7, 121, .inl ft)), (ml, .inl (k10, 64, .inr (.inl fl))), (mq, .inl (k11, 64, .inr (.inl fq)))] s.heap.size = A at hna hD hA ⊢
  have hS : va_S A s.heap s.heap [] := va_S.rf
  have hR := hR0
  have hP : va_P D vwCl [(mo, .inr (9, [.int th, .int (nI n), .ref mw, .ref mct, .ref mp, .ref mnm, .ref m1, .ref m2, .int om, .int tm, .ref mt, .ref mk, .ref mr, .ref ml, .ref mq])), (m1, .inl (k5, 11, .inl f1)), (m2, .inl (k6, 11, .inl f2)), (mt, .inl (k7, 121, .inl ft)), (ml, .inl (k10, 64, .inr (.inl fl))), (mq, .inl (k11, 64, .inr (.inl fq)))] s.heap := hP
  have hl := lv_entry ([.ref mo, .long (lN a), .int x9]) (n := 4) (Nat.le_of_ble_eq_true rfl)
  rw [lg_entry_eq]
  generalize (lg_sl ([.ref mo, .long (lN a), .int x9]) ++ List.replicate (4 - (lg_sl ([.ref mo, .long (lN a), .int x9])).length) Slot.unset).toArray = ls at hl ⊢
  have hl : lv_has ls 4 [(0, .ref mo), (1, .long (lN a)), (3, .int x9)] := hl
  refine lv_aload_n hx hb dX10_falseCandidates_0 rfl (lv_at hl 0 rfl) ?_
  refine lv_lload_n hx hb dX10_falseCandidates_1 rfl (lv_at hl 1 rfl) ?_
  refine lv_iload_n hx hb dX10_falseCandidates_2 rfl (lv_at hl 2 rfl) ?_
  refine lv_iconst (v := nI 2) hx hb dX10_falseCandidates_3 (by decide) ?_
  refine vp_callSi (W.runS (As := [.long (lN a), .int x9, .int (nI 2)]) (rest := [.ref mo]) ⟨hx, hb, hml, hown, hts⟩ (c_X10_isSearch (l := l) (D := D) (a := a) (x9 := x9) (mm := 2) (ha := ha)) (va_cwS 3 hts gX10_falseCandidates_X10_isSearch rfl rfl rfl (by decide +kernel) ⟨Nat.le_of_ble_eq_true rfl, Nat.le_of_ble_eq_true rfl⟩) ⟨qP_blind, (qP_of (q_Pof (fun _ h => absurd h List.not_mem_nil)) (hK.sub (tys' := []) [] rfl) hNw)⟩ rfl rfl hl.1 rfl (lv_room (Nat.le_of_ble_eq_true rfl)) dX10_falseCandidates_4 ⟨Nat.le_of_ble_eq_true rfl, Nat.le_of_ble_eq_true rfl⟩) (fun r_1 hr_1 => ?_)
  subst hr_1
  refine q_ifb_eq (tgt := 14) hx hb dX10_falseCandidates_7 (by decide) (fun c_7 => ?_) (fun c_7 => ?_)
  · skip
    refine lv_iconst (v := nI 1) hx hb dX10_falseCandidates_14 (by decide) ?_
    have hF := va_free (wc := [(mo, .inr (9, [.int th, .int (nI n), .ref mw, .ref mct, .ref mp, .ref mnm, .ref m1, .ref m2, .int om, .int tm, .ref mt, .ref mk, .ref mr, .ref ml, .ref mq]))]) hD hS hA [0] rfl
    refine va_calli (va_runV (As := [.int (nI 1)]) (rest := []) ⟨hx, hb, hml, hown, hts⟩ (c_X10_goesWell (l := l) (D := D) (mo := mo) (mw := mw) (mct := mct) (mp := mp) (mnm := mnm) (m1 := m1) (m2 := m2) (mt := mt) (mk := mk) (mr := mr) (ml := ml) (mq := mq) (th := th) (n := n) (om := om) (tm := tm) (x9 := 1) (sz := s.heap.size) (hnd := (q_nds hnd [0] rfl rfl)) (hx9 := by omega)) (cwV 1 hts gX10_falseCandidates_X10_goesWell rfl rfl rfl (by decide +kernel) ⟨Nat.le_of_ble_eq_true rfl, Nat.le_of_ble_eq_true rfl⟩) ⟨qW_blind, (va_recv hK hP (ci := 9) (q0 := 0) rfl rfl), (qW_of (q_Pof (fun _ h => absurd h List.not_mem_nil)) (hP.sub (ws' := [(mo, .inr (9, [.int th, .int (nI n), .ref mw, .ref mct, .ref mp, .ref mnm, .ref m1, .ref m2, .int om, .int tm, .ref mt, .ref mk, .ref mr, .ref ml, .ref mq]))]) [0] rfl) (hK.sub (tys' := []) [] rfl) hNw)⟩ rfl rfl hl.1 rfl (lv_room (Nat.le_of_ble_eq_true rfl)) dX10_falseCandidates_15 ⟨Nat.le_of_ble_eq_true rfl, Nat.le_of_ble_eq_true rfl⟩) hS (fun q _ h => hF q h) hF (fun r_2 u_6 t_5 H_3 locs_4 ht hvm hr_2 hB hz1 hk1 hS => ?_)
    replace hB : va_P D vwCl [(mo, .inr (9, [.int (nI 1), .int (nI n), .ref mw, .ref mct, .ref mp, .ref mnm, .ref m1, .ref m2, .int om, .int tm, .ref mt, .ref mk, .ref mr, .ref ml, .ref mq]))] H_3 := by rw [← ht]; exact hB
    obtain ⟨hP, hD⟩ := q_join (wc := [(mo, .inr (9, [.int th, .int (nI n), .ref mw, .ref mct, .ref mp, .ref mnm, .ref m1, .ref m2, .int om, .int tm, .ref mt, .ref mk, .ref mr, .ref ml, .ref mq]))]) (w1 := [(mo, .inr (9, [.int (nI 1), .int (nI n), .ref mw, .ref mct, .ref mp, .ref mnm, .ref m1, .ref m2, .int om, .int tm, .ref mt, .ref mk, .ref mr, .ref ml, .ref mq]))]) (ws' := [(mo, .inr (9, [.int (nI 1), .int (nI n), .ref mw, .ref mct, .ref mp, .ref mnm, .ref m1, .ref m2, .int om, .int tm, .ref mt, .ref mk, .ref mr, .ref ml, .ref mq])), (m1, .inl (k5, 11, .inl f1)), (m2, .inl (k6, 11, .inl f2)), (mt, .inl (k7, 121, .inl ft)), (ml, .inl (k10, 64, .inr (.inl fl))), (mq, .inl (k11, 64, .inr (.inl fq)))]) [0] hP hD rfl rfl hk1 hB rfl
    have hR := q_ro hR0 hna hS
    subst hr_2
    refine q_ifb_eq (tgt := 31) hx hb dX10_falseCandidates_18 (by decide) (fun _ => ?_) (fun c9 => absurd c9 (by decide))
    refine lv_iconst (v := nI 0) hx hb dX10_falseCandidates_31 (by decide) ?_
    exact W.iret (v := nI 0) hx hb hr (fun t9 ht hW => ⟨⟨nI 0, (nI 1, om, tm, f1, f2, ft, fl, fq), rfl, ⟨(by rw [if_neg c_7]), (fun h9 => absurd h9 c_7)⟩, by show va_P D vwCl _ t9.heap; rw [ht]; exact hP⟩, hS.F ht⟩) hS.2.2 dX10_falseCandidates_32
  · skip
    refine lv_iconst (v := nI 0) hx hb dX10_falseCandidates_10 (by decide) ?_
    refine lv_goto (tgt := 15) hx hb dX10_falseCandidates_11 (by decide) ?_
    have hF := va_free (wc := [(mo, .inr (9, [.int th, .int (nI n), .ref mw, .ref mct, .ref mp, .ref mnm, .ref m1, .ref m2, .int om, .int tm, .ref mt, .ref mk, .ref mr, .ref ml, .ref mq]))]) hD hS hA [0] rfl
    refine va_calli (va_runV (As := [.int (nI 0)]) (rest := []) ⟨hx, hb, hml, hown, hts⟩ (c_X10_goesWell (l := l) (D := D) (mo := mo) (mw := mw) (mct := mct) (mp := mp) (mnm := mnm) (m1 := m1) (m2 := m2) (mt := mt) (mk := mk) (mr := mr) (ml := ml) (mq := mq) (th := th) (n := n) (om := om) (tm := tm) (x9 := 0) (sz := s.heap.size) (hnd := (q_nds hnd [0] rfl rfl)) (hx9 := by omega)) (cwV 1 hts gX10_falseCandidates_X10_goesWell rfl rfl rfl (by decide +kernel) ⟨Nat.le_of_ble_eq_true rfl, Nat.le_of_ble_eq_true rfl⟩) ⟨qW_blind, (va_recv hK hP (ci := 9) (q0 := 0) rfl rfl), (qW_of (q_Pof (fun _ h => absurd h List.not_mem_nil)) (hP.sub (ws' := [(mo, .inr (9, [.int th, .int (nI n), .ref mw, .ref mct, .ref mp, .ref mnm, .ref m1, .ref m2, .int om, .int tm, .ref mt, .ref mk, .ref mr, .ref ml, .ref mq]))]) [0] rfl) (hK.sub (tys' := []) [] rfl) hNw)⟩ rfl rfl hl.1 rfl (lv_room (Nat.le_of_ble_eq_true rfl)) dX10_falseCandidates_15 ⟨Nat.le_of_ble_eq_true rfl, Nat.le_of_ble_eq_true rfl⟩) hS (fun q _ h => hF q h) hF (fun r_7 u_11 t_10 H_8 locs_9 ht hvm hr_7 hB hz1 hk1 hS => ?_)
    replace hB : va_P D vwCl [(mo, .inr (9, [.int (nI 0), .int (nI n), .ref mw, .ref mct, .ref mp, .ref mnm, .ref m1, .ref m2, .int om, .int tm, .ref mt, .ref mk, .ref mr, .ref ml, .ref mq]))] H_8 := by rw [← ht]; exact hB
    obtain ⟨hP, hD⟩ := q_join (wc := [(mo, .inr (9, [.int th, .int (nI n), .ref mw, .ref mct, .ref mp, .ref mnm, .ref m1, .ref m2, .int om, .int tm, .ref mt, .ref mk, .ref mr, .ref ml, .ref mq]))]) (w1 := [(mo, .inr (9, [.int (nI 0), .int (nI n), .ref mw, .ref mct, .ref mp, .ref mnm, .ref m1, .ref m2, .int om, .int tm, .ref mt, .ref mk, .ref mr, .ref ml, .ref mq]))]) (ws' := [(mo, .inr (9, [.int (nI 0), .int (nI n), .ref mw, .ref mct, .ref mp, .ref mnm, .ref m1, .ref m2, .int om, .int tm, .ref mt, .ref mk, .ref mr, .ref ml, .ref mq])), (m1, .inl (k5, 11, .inl f1)), (m2, .inl (k6, 11, .inl f2)), (mt, .inl (k7, 121, .inl ft)), (ml, .inl (k10, 64, .inr (.inl fl))), (mq, .inl (k11, 64, .inr (.inl fq)))]) [0] hP hD rfl rfl hk1 hB rfl
    have hR := q_ro hR0 hna hS
    subst hr_7
    refine q_ifb_eq (tgt := 31) hx hb dX10_falseCandidates_18 (by decide) (fun c9 => absurd (by decide) c9) (fun _ => ?_)
    have hlx := kz_le (by decide) c_7.2.1 c_7.2.2
    have hl : lv_has ls 4 [(0, .ref mo), (1, .long (lN a)), (3, .int (nI (kz x9)))] := (congrArg (fun v9 => lv_has ls 4 [(0, .ref mo), (1, .long (lN a)), (3, .int v9)]) (kz_of c_7.2.1)).mp hl
    refine lv_aload_n hx hb dX10_falseCandidates_21 rfl (lv_at hl 0 rfl) ?_
    refine lv_lload_n hx hb dX10_falseCandidates_22 rfl (lv_at hl 1 rfl) ?_
    refine lv_iload_n hx hb dX10_falseCandidates_23 rfl (lv_at hl 2 rfl) ?_
    refine lv_iconst (v := nI 1) hx hb dX10_falseCandidates_24 (by decide) ?_
    have hF := va_free (wc := [(mo, .inr (9, [.int (nI 0), .int (nI n), .ref mw, .ref mct, .ref mp, .ref mnm, .ref m1, .ref m2, .int om, .int tm, .ref mt, .ref mk, .ref mr, .ref ml, .ref mq])), (m1, .inl (k5, 11, .inl f1)), (m2, .inl (k6, 11, .inl f2)), (mt, .inl (k7, 121, .inl ft)), (ml, .inl (k10, 64, .inr (.inl fl))), (mq, .inl (k11, 64, .inr (.inl fq)))]) hD hS hA [0, 1, 2, 3, 4, 5] rfl
    refine va_calli (va_runV (As := [.long (lN a), .int (nI (kz x9)), .int (nI 1)]) (rest := []) ⟨hx, hb, hml, hown, hts⟩ (c_X10_candidateMany (l := l) (D := D) (mo := mo) (mw := mw) (mct := mct) (mp := mp) (mnm := mnm) (m1 := m1) (m2 := m2) (mt := mt) (mk := mk) (mr := mr) (ml := ml) (mq := mq) (k1 := k1) (k2 := k2) (k5 := k5) (k6 := k6) (k7 := k7) (k10 := k10) (k11 := k11) (th := nI 0) (n := n) (om := om) (tm := tm) (f1 := f1) (f2 := f2) (ft := ft) (fl := fl) (fq := fq) (wd := wd) (ct := ct) (a := a) (k := kz x9) (fB := 1) (sz := H_8.size) (hnd := (q_nds hnd [0, 1, 2, 3, 4, 5, 6, 7] rfl rfl)) (hga := c_7.1) (hn40 := hn40) (hgw := by omega) (hcb := by omega) (hk3 := by omega) (hfB := by decide)) (cwV 3 hts gX10_falseCandidates_X10_candidateMany rfl rfl rfl (by decide +kernel) ⟨Nat.le_of_ble_eq_true rfl, Nat.le_of_ble_eq_true rfl⟩) ⟨qW_blind, (va_recv hK hP (ci := 9) (q0 := 0) rfl rfl), (qW_of (hR.sub (ws' := [(mw, .inl (k1, 40, .inr (.inl (fun k9 => lN (wd k9))))), (mct, .inl (k2, 40, .inl (fun k9 => nI (ct k9))))]) [0, 1] rfl) (hP.sub (ws' := [(mo, .inr (9, [.int (nI 0), .int (nI n), .ref mw, .ref mct, .ref mp, .ref mnm, .ref m1, .ref m2, .int om, .int tm, .ref mt, .ref mk, .ref mr, .ref ml, .ref mq])), (m1, .inl (k5, 11, .inl f1)), (m2, .inl (k6, 11, .inl f2)), (mt, .inl (k7, 121, .inl ft)), (ml, .inl (k10, 64, .inr (.inl fl))), (mq, .inl (k11, 64, .inr (.inl fq)))]) [0, 1, 2, 3, 4, 5] rfl) (hK.sub (tys' := [(k5, .int), (k6, .int), (k7, .int), (k10, .long), (k11, .long), (k1, .long), (k2, .int)]) [0, 1, 2, 3, 4, 5, 6] rfl) hNw)⟩ rfl rfl hl.1 rfl (lv_room (Nat.le_of_ble_eq_true rfl)) dX10_falseCandidates_25 ⟨Nat.le_of_ble_eq_true rfl, Nat.le_of_ble_eq_true rfl⟩) hS (fun q _ h => hF q h) hF (fun r_12 u_16 t_15 H_13 locs_14 ht hvm hr_12 hB hz1 hk1 hS => ?_)
    obtain ⟨o2_17, q2_18, g1_19, g2_20, g3_21, g5_22, g6_23⟩ := u_16
    dsimp only at hr_12 hB
    replace hB : va_P D vwCl [(mo, .inr (9, [.int (nI 0), .int (nI n), .ref mw, .ref mct, .ref mp, .ref mnm, .ref m1, .ref m2, .int o2_17, .int q2_18, .ref mt, .ref mk, .ref mr, .ref ml, .ref mq])), (m1, .inl (k5, 11, .inl g1_19)), (m2, .inl (k6, 11, .inl g2_20)), (mt, .inl (k7, 121, .inl g3_21)), (ml, .inl (k10, 64, .inr (.inl g5_22))), (mq, .inl (k11, 64, .inr (.inl g6_23)))] H_13 := by rw [← ht]; exact hB
    obtain ⟨hP, hD⟩ := q_join (wc := [(mo, .inr (9, [.int (nI 0), .int (nI n), .ref mw, .ref mct, .ref mp, .ref mnm, .ref m1, .ref m2, .int om, .int tm, .ref mt, .ref mk, .ref mr, .ref ml, .ref mq])), (m1, .inl (k5, 11, .inl f1)), (m2, .inl (k6, 11, .inl f2)), (mt, .inl (k7, 121, .inl ft)), (ml, .inl (k10, 64, .inr (.inl fl))), (mq, .inl (k11, 64, .inr (.inl fq)))]) (w1 := [(mo, .inr (9, [.int (nI 0), .int (nI n), .ref mw, .ref mct, .ref mp, .ref mnm, .ref m1, .ref m2, .int o2_17, .int q2_18, .ref mt, .ref mk, .ref mr, .ref ml, .ref mq])), (m1, .inl (k5, 11, .inl g1_19)), (m2, .inl (k6, 11, .inl g2_20)), (mt, .inl (k7, 121, .inl g3_21)), (ml, .inl (k10, 64, .inr (.inl g5_22))), (mq, .inl (k11, 64, .inr (.inl g6_23)))]) (ws' := [(mo, .inr (9, [.int (nI 0), .int (nI n), .ref mw, .ref mct, .ref mp, .ref mnm, .ref m1, .ref m2, .int o2_17, .int q2_18, .ref mt, .ref mk, .ref mr, .ref ml, .ref mq])), (m1, .inl (k5, 11, .inl g1_19)), (m2, .inl (k6, 11, .inl g2_20)), (mt, .inl (k7, 121, .inl g3_21)), (ml, .inl (k10, 64, .inr (.inl g5_22))), (mq, .inl (k11, 64, .inr (.inl g6_23)))]) [0, 1, 2, 3, 4, 5] hP hD rfl rfl hk1 hB rfl
    have hR := q_ro hR0 hna hS
    subst hr_12
    refine lv_goto (tgt := 32) hx hb dX10_falseCandidates_28 (by decide) ?_
    exact W.iret (v := nI (cnt (fun i => decide (cdp wd ct a (kz x9) 1 i)) n)) hx hb hr (fun t9 ht hW => ⟨⟨nI (cnt (fun i => decide (cdp wd ct a (kz x9) 1 i)) n), (nI 0, o2_17, q2_18, g1_19, g2_20, g3_21, g5_22, g6_23), rfl, ⟨(by rw [if_pos c_7]), (fun _ => rfl)⟩, by show va_P D vwCl _ t9.heap; rw [ht]; exact hP⟩, hS.F ht⟩) hS.2.2 dX10_falseCandidates_32
