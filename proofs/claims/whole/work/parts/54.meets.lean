set_option maxRecDepth 20000 in
theorem iX10_meets_X10 : ∀ w ∈ wsX100, w ∈ wsX10_meets := by decide +kernel
set_option maxHeartbeats 4000000 in
set_option maxRecDepth 100000 in
/-- meets -/
theorem c_X10_meets (l : Launch) (D : va_G) (sz : Nat) (mo : Nat) (mw : Nat) (mct : Nat) (mp : Nat) (mnm : Nat) (m1 : Nat) (m2 : Nat) (mt : Nat) (mk : Nat) (mr : Nat) (ml : Nat) (mq : Nat) (k1 : ClassId) (k10 : ClassId) (k11 : ClassId) (th : Int32) (n : Nat) (om : Int32) (tm : Int32) (wd : Nat → Nat) (fl : Nat → Int64) (fq : Nat → Int64) (R : List Nat) (i : Nat) (k : Nat) (hnd : ([ml] ++ [mo, mw, mq]).Nodup) (hi4 : i < 40) (hga : gw (wd i)) (hk3 : k ≤ 3) (hQ : ∀ j, j < List.length R → fq j = lN (List.getD R j 0)) (hQb : ∀ j, j < List.length R → List.getD R j 0 < 2 ^ 50) (hQl : List.length R ≤ 56) : Met l yX10_meets wsX10_meets { frames := 4, cells := 0, slots := 0, locals := 107 } (va_Pc [.ref mo, .int (nI i), .int (nI k), .int (nI (List.length R))] (qW D sz ([(mo, .inr (9, [.int th, .int (nI n), .ref mw, .ref mct, .ref mp, .ref mnm, .ref m1, .ref m2, .int om, .int tm, .ref mt, .ref mk, .ref mr, .ref ml, .ref mq])), (mw, .inl (k1, 40, .inr (.inl (fun k9 => lN (wd k9))))), (mq, .inl (k11, 64, .inr (.inl fq)))]) [(ml, .inl (k10, 64, .inr (.inl fl)))] [(k10, .long), (k1, .long), (k11, .long)])) (va_Qi (fun (rv : Int32) (uv : (Nat → Int64)) => rv = (if (∃ x ∈ R, x ∈ nbl k (wd i)) then 1 else 0) ∧ ∀ j, j < List.length (nbl k (wd i)) → uv j = lN (List.getD (nbl k (wd i)) j 0)) (fun (uv : (Nat → Int64)) (tv : State) => va_P D vwCl [(ml, .inl (k10, 64, .inr (.inl uv)))] tv.heap) (va_A [(ml, .inl (k10, 64, .inr (.inl fl)))] sz)) 0 0 (va_A [(ml, .inl (k10, 64, .inr (.inl fl)))] sz) := by
  refine Met.ofW (cc := cX10_meets) (maxL := 7) (ret := (some .boolean)) (by decide) rfl ?_
  intro pM eM s mi9 argsM belowM methM cM sM B hml hv
  obtain ⟨rfl, hsz, hR0, hP, hK, hNw⟩ := hv
  have hx := B.exec
  have hb := B.bytes
  have hr := B.returns
  have hts := atoms_spec (ws := wsX10_meets) B.pre
  have hown : s.vm.findClass RX10 = some mi9.cls := findClass_of_methodNamed B.named
  have hlocks := B.notSynchronized
  subst hsz
  have hna := q_na (RW := [(ml, .inl (k10, 64, .inr (.inl fl)))]) (RO := [(mo, .inr (9, [.int th, .int (nI n), .ref mw, .ref mct, .ref mp, .ref mnm, .ref m1, .ref m2, .int om, .int tm, .ref mt, .ref mk, .ref mr, .ref ml, .ref mq])), (mw, .inl (k1, 40, .inr (.inl (fun k9 => lN (wd k9))))), (mq, .inl (k11, 64, .inr (.inl fq)))]) hnd rfl rfl hR0
  have hD := q_D (RW := [(ml, .inl (k10, 64, .inr (.inl fl)))]) (sz := s.heap.size) hnd rfl
  have hA : ∀ q : Nat, s.heap.size ≤ q → va_A [(ml, .inl (k10, 64, .inr (.inl fl)))] s.heap.size q := fun q h => Or.inr h
  generalize hAe : va_A [(ml, .inl (k10, 64, .inr (.inl fl)))] s.heap.size = A at hna hD hA ⊢
  have hS : va_S A s.heap s.heap [] := va_S.rf
  have hR := hR0
  have hP : va_P D vwCl [(ml, .inl (k10, 64, .inr (.inl fl)))] s.heap := hP
  have hl := lv_entry ([.ref mo, .int (nI i), .int (nI k), .int (nI (List.length R))]) (n := 7) (Nat.le_of_ble_eq_true rfl)
  rw [lg_entry_eq]
  generalize (lg_sl ([.ref mo, .int (nI i), .int (nI k), .int (nI (List.length R))]) ++ List.replicate (7 - (lg_sl ([.ref mo, .int (nI i), .int (nI k), .int (nI (List.length R))])).length) Slot.unset).toArray = ls at hl ⊢
  have hl : lv_has ls 7 [(0, .ref mo), (1, .int (nI i)), (2, .int (nI k)), (3, .int (nI (List.length R)))] := hl
  have hwa := gw_wl hga
  have hla := gw_lt hga
  have hn56 : List.length (nbl k (wd i)) ≤ 56 := q_lpl_56 hwa (by split <;> omega)
  refine lv_aload_n hx hb dX10_meets_0 rfl (lv_at hl 0 rfl) ?_
  refine lv_aload_n hx hb dX10_meets_1 rfl (lv_at hl 0 rfl) ?_
  refine va_get (D := D) (own := RX10) (ref := "FuzzyFensModel") (ci := 9) (v := .ref mw) (C := RX10) (T := TX10) (N := 15) hx hb hts iX10_meets_X10 hown hK hR 0 rfl rfl 2 (by decide) (hts (.fieldLink RX10 7 "FuzzyFensModel" "words" "[J") (List.mem_of_getElem? (i := 1) rfl)) (fun _ h9 => h9) rfl dX10_meets_2 ?_
  refine lv_iload_n hx hb dX10_meets_5 rfl (lv_at hl 1 rfl) ?_
  refine va_lald (D := D) hx hb hK hR 1 1 rfl rfl (vp_in_nI (n := i) (N := 40) (by omega) (by decide)) dX10_meets_6 ?_
  rw [nI_clamp (n := i) (by omega)]
  refine q_cvl (show (fun k9 => lN (wd k9)) i = lN (wd i) from rfl) ?_
  refine lv_iload_n hx hb dX10_meets_7 rfl (lv_at hl 2 rfl) ?_
  have hF := va_free (wc := [(ml, .inl (k10, 64, .inr (.inl fl)))]) hD hS hA [0] rfl
  refine va_calli (va_runV (As := [.long (lN (wd i)), .int (nI k)]) (rest := []) ⟨hx, hb, hml, hown, hts⟩ (c_X10_layLeft (l := l) (D := D) (mo := mo) (mw := mw) (mct := mct) (mp := mp) (mnm := mnm) (m1 := m1) (m2 := m2) (mt := mt) (mk := mk) (mr := mr) (ml := ml) (mq := mq) (k10 := k10) (th := th) (n := n) (om := om) (tm := tm) (fl := fl) (a := wd i) (k := k) (sz := s.heap.size) (hnd := (q_nds hnd [0, 1] rfl rfl)) (hga := hga) (hk3 := hk3)) (cwV 2 hts gX10_meets_X10_layLeft rfl rfl rfl (by decide +kernel) ⟨Nat.le_of_ble_eq_true rfl, Nat.le_of_ble_eq_true rfl⟩) ⟨qW_blind, (va_recv hK hR (ci := 9) (q0 := 0) rfl rfl), (qW_of (hR.sub (ws' := [(mo, .inr (9, [.int th, .int (nI n), .ref mw, .ref mct, .ref mp, .ref mnm, .ref m1, .ref m2, .int om, .int tm, .ref mt, .ref mk, .ref mr, .ref ml, .ref mq]))]) [0] rfl) (hP.sub (ws' := [(ml, .inl (k10, 64, .inr (.inl fl)))]) [0] rfl) (hK.sub (tys' := [(k10, .long)]) [0] rfl) hNw)⟩ rfl rfl hl.1 rfl (lv_room (Nat.le_of_ble_eq_true rfl)) dX10_meets_8 ⟨Nat.le_of_ble_eq_true rfl, Nat.le_of_ble_eq_true rfl⟩) hS (fun q _ h => hF q h) hF (fun r_1 u_5 t_4 H_2 locs_3 ht hvm hr_1 hB hz1 hk1 hS => ?_)
  obtain ⟨s5, rfl⟩ : ∃ z, z = u_5 := ⟨_, rfl⟩
  replace hB : va_P D vwCl [(ml, .inl (k10, 64, .inr (.inl s5)))] H_2 := by rw [← ht]; exact hB
  obtain ⟨hP, hD⟩ := q_join (wc := [(ml, .inl (k10, 64, .inr (.inl fl)))]) (w1 := [(ml, .inl (k10, 64, .inr (.inl s5)))]) (ws' := [(ml, .inl (k10, 64, .inr (.inl s5)))]) [0] hP hD rfl rfl hk1 hB rfl
  have hR := q_ro hR0 hna hS
  obtain ⟨rfl, hcts⟩ := hr_1
  refine lv_istore (lv' := [(4, .int (nI (List.length (nbl k (wd i))))), (0, .ref mo), (1, .int (nI i)), (2, .int (nI k)), (3, .int (nI (List.length R)))]) hx hb dX10_meets_11 hl (by decide) rfl (fun ls hl => ?_)
  refine lv_iconst (v := nI 0) hx hb dX10_meets_13 (by decide) ?_
  refine lv_istore (lv' := [(5, .int (nI 0)), (4, .int (nI (List.length (nbl k (wd i))))), (0, .ref mo), (1, .int (nI i)), (2, .int (nI k)), (3, .int (nI (List.length R)))]) hx hb dX10_meets_14 hl (by decide) rfl (fun ls hl => ?_)
  refine lv_iconst (v := nI 0) hx hb dX10_meets_16 (by decide) ?_
  refine lv_istore (lv' := [(6, .int (nI 0)), (5, .int (nI 0)), (4, .int (nI (List.length (nbl k (wd i))))), (0, .ref mo), (1, .int (nI i)), (2, .int (nI k)), (3, .int (nI (List.length R)))]) hx hb dX10_meets_17 hl (by decide) rfl (fun ls hl => ?_)
  refine q_loop (fun (x : (Nat) × (Nat)) (Hc : Heap) (Lc : List Loc) (ls : Array Slot) => match x with | (j, b) => (j ≤ List.length R) ∧ (b ≤ 1) ∧ (b = 1 ↔ ∃ j9, j9 < j ∧ List.getD R j9 0 ∈ nbl k (wd i)) ∧ H_2 = Hc ∧ locs_3 = Lc ∧ lv_has ls 7 [(6, .int (nI j)), (5, .int (nI b)), (4, .int (nI (List.length (nbl k (wd i))))), (0, .ref mo), (1, .int (nI i)), (2, .int (nI k)), (3, .int (nI (List.length R)))]) (fun (x : (Nat) × (Nat)) => match x with | (j, b) => List.length R - j) (0, 0) ⟨(by omega), (by omega), ⟨fun h9 => by omega, fun ⟨j9, q1, _⟩ => by omega⟩, rfl, rfl, (lv_sub hl [0, 1, 2, 3, 4, 5, 6] rfl)⟩ ?_
  clear hl
  rintro ⟨j, b⟩ Hc Lc ls hI ih_19
  obtain ⟨hj, hb1, hbv, rfl, rfl, hl⟩ := hI
  refine lv_iload hx hb dX10_meets_19 (lv_at hl 0 rfl) ?_
  refine lv_iload_n hx hb dX10_meets_21 rfl (lv_at hl 6 rfl) ?_
  refine q_icmp_ge (a := j) (b := List.length R) (tgt := 59) hx hb dX10_meets_22 (by decide) (by omega) (by omega) (fun c_22 => ?_) (fun c_22 => ?_)
  · skip
    refine lv_iload hx hb dX10_meets_59 (lv_at hl 1 rfl) ?_
    have hbi : b = 1 ↔ ∃ x ∈ R, x ∈ nbl k (wd i) := by
      rw [hbv, show j = List.length R by omega]
      exact ⟨fun ⟨j9, q1, q2⟩ => ⟨_, q_mem.mpr ⟨j9, q1, rfl⟩, q2⟩, fun ⟨x, q1, q2⟩ => by obtain ⟨j9, q3, q4⟩ := q_mem.mp q1; exact ⟨j9, q3, q4 ▸ q2⟩⟩
    exact W.zret (v := nI b) hx hb hr (by rcases (show b = 0 ∨ b = 1 by omega) with h8 | h8 <;> rw [h8] <;> rfl) (fun t9 ht hW => ⟨⟨nI b, s5, rfl, ⟨(by by_cases h8 : b = 1; (rw [if_pos (hbi.mp h8), h8]); (rw [if_neg (fun h => h8 (hbi.mpr h)), show b = 0 by omega])), hcts⟩, by show va_P D vwCl _ t9.heap; rw [ht]; exact hP⟩, hS.F ht⟩) hS.2.2 dX10_meets_61
  · skip
    refine lv_iload hx hb dX10_meets_25 (lv_at hl 1 rfl) ?_
    refine q_cut 51 (fun (x : (Nat)) (Hc : Heap) (Lc : List Loc) (ls : Array Slot) (st : List Value) => match x with | b2 => (b2 ≤ 1) ∧ (b2 = 1 ↔ (b = 1 ∨ List.getD R j 0 ∈ nbl k (wd i))) ∧ H_2 = Hc ∧ locs_3 = Lc ∧ lv_has ls 7 [(6, .int (nI j)), (5, .int (nI b)), (4, .int (nI (List.length (nbl k (wd i))))), (0, .ref mo), (1, .int (nI i)), (2, .int (nI k)), (3, .int (nI (List.length R)))] ∧ [.int (nI b2)] = st) ?_ ?_
    · clear hl
      rintro b2 Hc Lc ls st hI
      obtain ⟨h3, h4, rfl, rfl, hl, rfl⟩ := hI
      refine lv_istore (lv' := [(5, .int (nI b2)), (6, .int (nI j)), (4, .int (nI (List.length (nbl k (wd i))))), (0, .ref mo), (1, .int (nI i)), (2, .int (nI k)), (3, .int (nI (List.length R)))]) hx hb dX10_meets_51 hl (by decide) rfl (fun ls hl => ?_)
      refine lv_iinc (v := nI (j + 1)) (lv' := [(6, .int (nI (j + 1))), (5, .int (nI b2)), (4, .int (nI (List.length (nbl k (wd i))))), (0, .ref mo), (1, .int (nI i)), (2, .int (nI k)), (3, .int (nI (List.length R)))]) hx hb dX10_meets_53 hl (k := 1) rfl (q_inc (k := 1) (by omega)) (by decide) rfl (fun ls hl => ?_)
      refine lv_goto (tgt := 19) hx hb dX10_meets_56 (by decide) ?_
      exact ih_19 (j + 1, b2) _ _ _ ⟨(by omega), h3, (by rw [h4, hbv]; constructor; (rintro (⟨j9, q1, q2⟩ | q1); (exact ⟨j9, by omega, q2⟩); (exact ⟨j, by omega, q1⟩)); (rintro ⟨j9, q1, q2⟩; by_cases e : j9 = j; (exact Or.inr (e ▸ q2)); (exact Or.inl ⟨j9, by omega, q2⟩))), rfl, rfl, (lv_sub hl [0, 1, 2, 3, 4, 5, 6] rfl)⟩ (by show List.length R - (j + 1) < List.length R - j; omega)
    · intro hcut_51
      refine q_if_ne (a := b) (tgt := 46) hx hb dX10_meets_27 (by decide) (by omega) (fun c_27 => ?_) (fun c_27 => ?_)
      · skip
        refine lv_iconst (v := nI 1) hx hb dX10_meets_46 (by decide) ?_
        refine lv_goto (tgt := 51) hx hb dX10_meets_47 (by decide) ?_
        exact hcut_51 1 _ _ _ _ ⟨(by omega), (by constructor; (intro q9; first | omega | (exact Or.inl (by omega)) | (exact Or.inr (by assumption))); (rintro (q9 | q9) <;> first | omega | exact absurd q9 (by assumption))), rfl, rfl, (lv_sub hl [0, 1, 2, 3, 4, 5, 6] rfl), rfl⟩
      · skip
        refine lv_aload_n hx hb dX10_meets_30 rfl (lv_at hl 3 rfl) ?_
        refine lv_aload_n hx hb dX10_meets_31 rfl (lv_at hl 3 rfl) ?_
        refine va_get (D := D) (own := RX10) (ref := "FuzzyFensModel") (ci := 9) (v := .ref mq) (C := RX10) (T := TX10) (N := 15) hx hb hts iX10_meets_X10 hown hK hR 0 rfl rfl 14 (by decide) (hts (.fieldLink RX10 41 "FuzzyFensModel" "right" "[J") (List.mem_of_getElem? (i := 2) rfl)) (fun _ h9 => h9) rfl dX10_meets_32 ?_
        refine lv_iload hx hb dX10_meets_35 (lv_at hl 0 rfl) ?_
        refine va_lald (D := D) hx hb hK hR 2 2 rfl rfl (vp_in_nI (n := j) (N := 64) (by omega) (by decide)) dX10_meets_37 ?_
        rw [nI_clamp (n := j) (by omega)]
        refine q_cvl (show (fq j) = (lN (List.getD R j 0)) from hQ j (by omega)) ?_
        refine lv_iload hx hb dX10_meets_38 (lv_at hl 2 rfl) ?_
        refine vp_callSi (W.runV (As := [.long (lN (List.getD R j 0)), .int (nI (List.length (nbl k (wd i))))]) (rest := []) ⟨hx, hb, hml, hown, hts⟩ (c_X10_isOnLeft (l := l) (D := D) (mo := mo) (mw := mw) (mct := mct) (mp := mp) (mnm := mnm) (m1 := m1) (m2 := m2) (mt := mt) (mk := mk) (mr := mr) (ml := ml) (mq := mq) (k10 := k10) (th := th) (n := n) (om := om) (tm := tm) (fl := s5) (L := nbl k (wd i)) (v := List.getD R j 0) (hL := hcts) (hLb := lpl_bnd hwa _) (hLl := by omega) (hv9 := (by have := hQb j (by omega); omega))) (cwV 2 hts gX10_meets_X10_isOnLeft rfl rfl rfl (by decide +kernel) ⟨Nat.le_of_ble_eq_true rfl, Nat.le_of_ble_eq_true rfl⟩) ⟨qP_blind, (va_recv hK hR (ci := 9) (q0 := 0) rfl rfl), (qP_of (show va_P D vwCl [(mo, .inr (9, [.int th, .int (nI n), .ref mw, .ref mct, .ref mp, .ref mnm, .ref m1, .ref m2, .int om, .int tm, .ref mt, .ref mk, .ref mr, .ref ml, .ref mq])), (ml, .inl (k10, 64, .inr (.inl s5)))] _ from (va_P.app (hR.sub (ws' := [(mo, .inr (9, [.int th, .int (nI n), .ref mw, .ref mct, .ref mp, .ref mnm, .ref m1, .ref m2, .int om, .int tm, .ref mt, .ref mk, .ref mr, .ref ml, .ref mq]))]) [0] rfl) (hP.sub (ws' := [(ml, .inl (k10, 64, .inr (.inl s5)))]) [0] rfl))) (hK.sub (tys' := [(k10, .long)]) [0] rfl) hNw)⟩ rfl rfl hl.1 rfl (lv_room (Nat.le_of_ble_eq_true rfl)) dX10_meets_40 ⟨Nat.le_of_ble_eq_true rfl, Nat.le_of_ble_eq_true rfl⟩) (fun r_6 hr_6 => ?_)
        subst hr_6
        refine q_ifb_eq (tgt := 50) hx hb dX10_meets_43 (by decide) (fun c_43 => ?_) (fun c_43 => ?_)
        · skip
          refine lv_iconst (v := nI 0) hx hb dX10_meets_50 (by decide) ?_
          exact hcut_51 0 _ _ _ _ ⟨(by omega), (by constructor; (intro q9; first | omega | (exact Or.inl (by omega)) | (exact Or.inr (by assumption))); (rintro (q9 | q9) <;> first | omega | exact absurd q9 (by assumption))), rfl, rfl, (lv_sub hl [0, 1, 2, 3, 4, 5, 6] rfl), rfl⟩
        · skip
          refine lv_iconst (v := nI 1) hx hb dX10_meets_46 (by decide) ?_
          refine lv_goto (tgt := 51) hx hb dX10_meets_47 (by decide) ?_
          exact hcut_51 1 _ _ _ _ ⟨(by omega), (by constructor; (intro q9; first | omega | (exact Or.inl (by omega)) | (exact Or.inr (by assumption))); (rintro (q9 | q9) <;> first | omega | exact absurd q9 (by assumption))), rfl, rfl, (lv_sub hl [0, 1, 2, 3, 4, 5, 6] rfl), rfl⟩
