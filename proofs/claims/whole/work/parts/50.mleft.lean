set_option maxRecDepth 20000 in
theorem iX10_layLeft_X10 : ∀ w ∈ wsX100, w ∈ wsX10_layLeft := by decide +kernel
set_option maxHeartbeats 4000000 in
set_option maxRecDepth 100000 in
/-- layLeft -/
theorem c_X10_layLeft (l : Launch) (D : va_G) (sz : Nat) (mo : Nat) (mw : Nat) (mct : Nat) (mp : Nat) (mnm : Nat) (m1 : Nat) (m2 : Nat) (mt : Nat) (mk : Nat) (mr : Nat) (ml : Nat) (mq : Nat) (k10 : ClassId) (th : Int32) (n : Nat) (om : Int32) (tm : Int32) (fl : Nat → Int64) (a : Nat) (k : Nat) (hnd : ([ml] ++ [mo]).Nodup) (hga : gw a) (hk3 : k ≤ 3) : Met l yX10_layLeft wsX10_layLeft { frames := 3, cells := 0, slots := 0, locals := 78 } (va_Pc [.ref mo, .long (lN a), .int (nI k)] (qW D sz ([(mo, .inr (9, [.int th, .int (nI n), .ref mw, .ref mct, .ref mp, .ref mnm, .ref m1, .ref m2, .int om, .int tm, .ref mt, .ref mk, .ref mr, .ref ml, .ref mq]))]) [(ml, .inl (k10, 64, .inr (.inl fl)))] [(k10, .long)])) (va_Qi (fun (rv : Int32) (uv : (Nat → Int64)) => rv = nI (List.length (nbl k a)) ∧ ∀ j, j < List.length (nbl k a) → uv j = lN (List.getD (nbl k a) j 0)) (fun (uv : (Nat → Int64)) (tv : State) => va_P D vwCl [(ml, .inl (k10, 64, .inr (.inl uv)))] tv.heap) (va_A [(ml, .inl (k10, 64, .inr (.inl fl)))] sz)) 0 0 (va_A [(ml, .inl (k10, 64, .inr (.inl fl)))] sz) := by
  refine Met.ofW (cc := cX10_layLeft) (maxL := 10) (ret := (some .int)) (by decide) rfl ?_
  intro pM eM s mi9 argsM belowM methM cM sM B hml hv
  obtain ⟨rfl, hsz, hR0, hP, hK, hNw⟩ := hv
  have hx := B.exec
  have hb := B.bytes
  have hr := B.returns
  have hts := atoms_spec (ws := wsX10_layLeft) B.pre
  have hown : s.vm.findClass RX10 = some mi9.cls := findClass_of_methodNamed B.named
  have hlocks := B.notSynchronized
  subst hsz
  have hna := q_na (RW := [(ml, .inl (k10, 64, .inr (.inl fl)))]) (RO := [(mo, .inr (9, [.int th, .int (nI n), .ref mw, .ref mct, .ref mp, .ref mnm, .ref m1, .ref m2, .int om, .int tm, .ref mt, .ref mk, .ref mr, .ref ml, .ref mq]))]) hnd rfl rfl hR0
  have hD := q_D (RW := [(ml, .inl (k10, 64, .inr (.inl fl)))]) (sz := s.heap.size) hnd rfl
  have hA : ∀ q : Nat, s.heap.size ≤ q → va_A [(ml, .inl (k10, 64, .inr (.inl fl)))] s.heap.size q := fun q h => Or.inr h
  generalize hAe : va_A [(ml, .inl (k10, 64, .inr (.inl fl)))] s.heap.size = A at hna hD hA ⊢
  have hS : va_S A s.heap s.heap [] := va_S.rf
  have hR := hR0
  have hP : va_P D vwCl [(ml, .inl (k10, 64, .inr (.inl fl)))] s.heap := hP
  have hl := lv_entry ([.ref mo, .long (lN a), .int (nI k)]) (n := 10) (Nat.le_of_ble_eq_true rfl)
  rw [lg_entry_eq]
  generalize (lg_sl ([.ref mo, .long (lN a), .int (nI k)]) ++ List.replicate (10 - (lg_sl ([.ref mo, .long (lN a), .int (nI k)])).length) Slot.unset).toArray = ls at hl ⊢
  have hl : lv_has ls 10 [(0, .ref mo), (1, .long (lN a)), (3, .int (nI k))] := hl
  have hwa := gw_wl hga
  have hla := gw_lt hga
  refine lv_iconst (v := nI 0) hx hb dX10_layLeft_0 (by decide) ?_
  refine lv_istore (lv' := [(4, .int (nI 0)), (0, .ref mo), (1, .long (lN a)), (3, .int (nI k))]) hx hb dX10_layLeft_1 hl (by decide) rfl (fun ls hl => ?_)
  refine lv_lload_n hx hb dX10_layLeft_3 rfl (lv_at hl 2 rfl) ?_
  refine vp_callSi (W.runS (As := [.long (lN a)]) (rest := []) ⟨hx, hb, hml, hown, hts⟩ (c_X10_lengthOf (l := l) (D := D) (a := a) (ha := by omega)) (va_cwS 1 hts gX10_layLeft_X10_lengthOf rfl rfl rfl (by decide +kernel) ⟨Nat.le_of_ble_eq_true rfl, Nat.le_of_ble_eq_true rfl⟩) ⟨qP_blind, (qP_of (q_Pof (fun _ h => absurd h List.not_mem_nil)) (hK.sub (tys' := []) [] rfl) hNw)⟩ rfl rfl hl.1 rfl (lv_room (Nat.le_of_ble_eq_true rfl)) dX10_layLeft_4 ⟨Nat.le_of_ble_eq_true rfl, Nat.le_of_ble_eq_true rfl⟩) (fun r_1 hr_1 => ?_)
  subst hr_1
  refine lv_istore (lv' := [(5, .int (nI (wl a))), (4, .int (nI 0)), (0, .ref mo), (1, .long (lN a)), (3, .int (nI k))]) hx hb dX10_layLeft_7 hl (by decide) rfl (fun ls hl => ?_)
  refine lv_iconst (v := nI 0) hx hb dX10_layLeft_9 (by decide) ?_
  refine lv_istore (lv' := [(6, .int (nI 0)), (5, .int (nI (wl a))), (4, .int (nI 0)), (0, .ref mo), (1, .long (lN a)), (3, .int (nI k))]) hx hb dX10_layLeft_10 hl (by decide) rfl (fun ls hl => ?_)
  refine q_loop (fun (x : (Nat) × (Nat → Int64)) (H : Heap) (locs : List Loc) (ls : Array Slot) => match x with | (p, s1) => (p ≤ wl a + 1) ∧ (0 < k ∨ p ≤ 1) ∧ (∀ j, j < List.length (lpl k a p) → s1 j = lN (List.getD (lpl k a p) j 0)) ∧ va_P D vwCl [(ml, .inl (k10, 64, .inr (.inl s1)))] H ∧ va_D A [(ml, .inl (k10, 64, .inr (.inl s1)))] ∧ va_S A s.heap H locs ∧ lv_has ls 10 [(6, .int (nI p)), (5, .int (nI (wl a))), (4, .int (nI (List.length (lpl k a p)))), (0, .ref mo), (1, .long (lN a)), (3, .int (nI k))]) (fun (x : (Nat) × (Nat → Int64)) => match x with | (p, s1) => wl a + 1 - p) (0, fl) ⟨(by omega), (Or.inr (by omega)), (fun j hj => absurd hj (Nat.not_lt_zero _)), hP, hD, hS, (lv_sub hl [0, 1, 2, 3, 4, 5] rfl)⟩ ?_
  clear hl
  clear hP hD hS
  rintro ⟨p, s1⟩ H locs ls hI ih_12
  obtain ⟨hp, hpk, hS1, hP, hD, hS, hl⟩ := hI
  have hR := q_ro hR0 hna hS
  refine lv_iload hx hb dX10_layLeft_12 (lv_at hl 0 rfl) ?_
  refine lv_iload hx hb dX10_layLeft_14 (lv_at hl 1 rfl) ?_
  refine q_icmp_gt (a := p) (b := wl a) (tgt := 96) hx hb dX10_layLeft_16 (by decide) (by omega) (by omega) (fun c_16 => ?_) (fun c_16 => ?_)
  · skip
    refine lv_iload hx hb dX10_layLeft_96 (lv_at hl 2 rfl) ?_
    have ep : p = (if 0 < k then wl a + 1 else 1) := by split <;> omega
    have enb : nbl k a = lpl k a p := by unfold nbl; rw [← ep]
    exact W.iret (v := nI (List.length (lpl k a p))) hx hb hr (fun t9 ht hW => ⟨⟨nI (List.length (lpl k a p)), s1, rfl, ⟨(by rw [enb]), (by rw [enb]; exact hS1)⟩, by show va_P D vwCl _ t9.heap; rw [ht]; exact hP⟩, hS.F ht⟩) hS.2.2 dX10_layLeft_98
  · skip
    refine lv_iload hx hb dX10_layLeft_19 (lv_at hl 0 rfl) ?_
    refine q_if_eq (a := p) (tgt := 28) hx hb dX10_layLeft_21 (by decide) (by omega) (fun c_21 => ?_) (fun c_21 => ?_)
    · skip
      refine lv_iload hx hb dX10_layLeft_28 (lv_at hl 0 rfl) ?_
      refine lv_istore (lv' := [(7, .int (nI p)), (6, .int (nI p)), (5, .int (nI (wl a))), (4, .int (nI (List.length (lpl k a p)))), (0, .ref mo), (1, .long (lN a)), (3, .int (nI k))]) hx hb dX10_layLeft_30 hl (by decide) rfl (fun ls hl => ?_)
      refine q_loop (fun (x : (Nat) × (Nat → Int64)) (H : Heap) (locs : List Loc) (ls : Array Slot) => match x with | (u9, s2) => (u9 ≤ scn k a p) ∧ (p + u9 ≤ wl a + 1) ∧ (∀ j, j < List.length (lsd a p (lpl k a p) u9) → s2 j = lN (List.getD (lsd a p (lpl k a p) u9) j 0)) ∧ va_P D vwCl [(ml, .inl (k10, 64, .inr (.inl s2)))] H ∧ va_D A [(ml, .inl (k10, 64, .inr (.inl s2)))] ∧ va_S A s.heap H locs ∧ lv_has ls 10 [(7, .int (nI (p + u9))), (6, .int (nI p)), (5, .int (nI (wl a))), (4, .int (nI (List.length (lsd a p (lpl k a p) u9)))), (0, .ref mo), (1, .long (lN a)), (3, .int (nI k))]) (fun (x : (Nat) × (Nat → Int64)) => match x with | (u9, s2) => wl a + 1 - (p + u9)) (0, s1) ⟨(by omega), (by omega), hS1, hP, hD, hS, (lv_sub hl [0, 1, 2, 3, 4, 5, 6] rfl)⟩ ?_
      clear hl
      clear hP hD hS
      rintro ⟨u9, s2⟩ H locs ls hI ih_32
      obtain ⟨hs, hps, hS2, hP, hD, hS, hl⟩ := hI
      have hR := q_ro hR0 hna hS
      refine lv_iload hx hb dX10_layLeft_32 (lv_at hl 0 rfl) ?_
      refine lv_iload hx hb dX10_layLeft_34 (lv_at hl 2 rfl) ?_
      refine q_icmp_gt (a := p + u9) (b := wl a) (tgt := 90) hx hb dX10_layLeft_36 (by decide) (by omega) (by omega) (fun c_36 => ?_) (fun c_36 => ?_)
      · skip
        refine lv_iinc (v := nI (p + 1)) (lv' := [(6, .int (nI (p + 1))), (7, .int (nI (p + u9))), (5, .int (nI (wl a))), (4, .int (nI (List.length (lsd a p (lpl k a p) u9)))), (0, .ref mo), (1, .long (lN a)), (3, .int (nI k))]) hx hb dX10_layLeft_90 hl (k := 1) rfl (q_inc (k := 1) (by omega)) (by decide) rfl (fun ls hl => ?_)
        refine lv_goto (tgt := 12) hx hb dX10_layLeft_93 (by decide) ?_
        have es : u9 = scn k a p := by unfold scn at hs ⊢; by_cases hk9 : 1 < k; (rw [if_pos hk9] at hs ⊢; omega); (rw [if_neg hk9] at hs ⊢; omega)
        rw [es] at hl hS2
        exact ih_12 (p + 1, s2) _ _ _ ⟨(by omega), (by omega), hS2, hP, hD, hS, (lv_sub hl [0, 2, 3, 4, 5, 6] rfl)⟩ (by show wl a + 1 - (p + 1) < wl a + 1 - p; omega)
      · skip
        refine lv_iload hx hb dX10_layLeft_39 (lv_at hl 0 rfl) ?_
        refine lv_iload hx hb dX10_layLeft_41 (lv_at hl 1 rfl) ?_
        refine q_icmp_eq (a := p + u9) (b := p) (tgt := 51) hx hb dX10_layLeft_43 (by decide) (by omega) (by omega) (fun c_43 => ?_) (fun c_43 => ?_)
        · skip
          refine lv_lload_n hx hb dX10_layLeft_51 rfl (lv_at hl 5 rfl) ?_
          refine lv_iload hx hb dX10_layLeft_52 (lv_at hl 1 rfl) ?_
          refine lv_iload hx hb dX10_layLeft_54 (lv_at hl 0 rfl) ?_
          refine vp_callSl (W.runS (As := [.long (lN a), .int (nI p), .int (nI (p + u9))]) (rest := []) ⟨hx, hb, hml, hown, hts⟩ (c_X10_without (l := l) (D := D) (a := a) (p9 := p) (q9 := p + u9) (ha := by omega) (hw := by omega) (hp9 := by omega) (hq9 := by omega)) (va_cwS 3 hts gX10_layLeft_X10_without rfl rfl rfl (by decide +kernel) ⟨Nat.le_of_ble_eq_true rfl, Nat.le_of_ble_eq_true rfl⟩) ⟨qP_blind, (qP_of (q_Pof (fun _ h => absurd h List.not_mem_nil)) (hK.sub (tys' := []) [] rfl) hNw)⟩ rfl rfl hl.1 rfl (lv_room (Nat.le_of_ble_eq_true rfl)) dX10_layLeft_56 ⟨Nat.le_of_ble_eq_true rfl, Nat.le_of_ble_eq_true rfl⟩) (fun r_2 hr_2 => ?_)
          subst hr_2
          refine lv_lstore (lv' := [(8, .long (lN (wof a p (p + u9) (wl a)))), (7, .int (nI (p + u9))), (6, .int (nI p)), (5, .int (nI (wl a))), (4, .int (nI (List.length (lsd a p (lpl k a p) u9)))), (0, .ref mo), (1, .long (lN a)), (3, .int (nI k))]) hx hb dX10_layLeft_59 hl (by decide) rfl (fun ls hl => ?_)
          refine lv_aload_n hx hb dX10_layLeft_61 rfl (lv_at hl 5 rfl) ?_
          refine lv_lload hx hb dX10_layLeft_62 (lv_at hl 0 rfl) ?_
          refine lv_iload hx hb dX10_layLeft_64 (lv_at hl 4 rfl) ?_
          refine vp_callSi (W.runV (As := [.long (lN (wof a p (p + u9) (wl a))), .int (nI (List.length (lsd a p (lpl k a p) u9)))]) (rest := []) ⟨hx, hb, hml, hown, hts⟩ (c_X10_isOnLeft (l := l) (D := D) (mo := mo) (mw := mw) (mct := mct) (mp := mp) (mnm := mnm) (m1 := m1) (m2 := m2) (mt := mt) (mk := mk) (mr := mr) (ml := ml) (mq := mq) (k10 := k10) (th := th) (n := n) (om := om) (tm := tm) (fl := s2) (L := lsd a p (lpl k a p) u9) (v := wof a p (p + u9) (wl a)) (hL := hS2) (hLb := lsd_bnd hwa p (lpl_bnd hwa p) u9) (hLl := (by have := q_lsd_56 (k := k) (p := p) (s := u9) hwa (by omega) hs; omega)) (hv9 := (by have := wof_50 (n := a) (p := p) (q := p + u9) hwa; omega))) (cwV 2 hts gX10_layLeft_X10_isOnLeft rfl rfl rfl (by decide +kernel) ⟨Nat.le_of_ble_eq_true rfl, Nat.le_of_ble_eq_true rfl⟩) ⟨qP_blind, (va_recv hK hR (ci := 9) (q0 := 0) rfl rfl), (qP_of (show va_P D vwCl [(mo, .inr (9, [.int th, .int (nI n), .ref mw, .ref mct, .ref mp, .ref mnm, .ref m1, .ref m2, .int om, .int tm, .ref mt, .ref mk, .ref mr, .ref ml, .ref mq])), (ml, .inl (k10, 64, .inr (.inl s2)))] _ from (va_P.app (hR.sub (ws' := [(mo, .inr (9, [.int th, .int (nI n), .ref mw, .ref mct, .ref mp, .ref mnm, .ref m1, .ref m2, .int om, .int tm, .ref mt, .ref mk, .ref mr, .ref ml, .ref mq]))]) [0] rfl) (hP.sub (ws' := [(ml, .inl (k10, 64, .inr (.inl s2)))]) [0] rfl))) (hK.sub (tys' := [(k10, .long)]) [0] rfl) hNw)⟩ rfl rfl hl.1 rfl (lv_room (Nat.le_of_ble_eq_true rfl)) dX10_layLeft_66 ⟨Nat.le_of_ble_eq_true rfl, Nat.le_of_ble_eq_true rfl⟩) (fun r_3 hr_3 => ?_)
          subst hr_3
          have hl56 := q_lsd_56 (k := k) (p := p) (s := u9) hwa (by omega) hs
          refine q_cut 84 (fun (x : (Nat → Int64)) (H : Heap) (locs : List Loc) (ls : Array Slot) (st : List Value) => match x with | s3 => (∀ j, j < List.length (lsd a p (lpl k a p) (u9 + 1)) → s3 j = lN (List.getD (lsd a p (lpl k a p) (u9 + 1)) j 0)) ∧ va_P D vwCl [(ml, .inl (k10, 64, .inr (.inl s3)))] H ∧ va_D A [(ml, .inl (k10, 64, .inr (.inl s3)))] ∧ va_S A s.heap H locs ∧ lv_has ls 10 [(7, .int (nI (p + u9))), (6, .int (nI p)), (5, .int (nI (wl a))), (4, .int (nI (List.length (lsd a p (lpl k a p) (u9 + 1))))), (0, .ref mo), (1, .long (lN a)), (3, .int (nI k))] ∧ [] = st) ?_ ?_
          · clear hl; clear hP hD hS
            rintro s3 H locs ls st hI
            obtain ⟨hS3, hP, hD, hS, hl, rfl⟩ := hI
            have hR := q_ro hR0 hna hS
            refine lv_iinc (v := nI (p + u9 + 1)) (lv' := [(7, .int (nI (p + u9 + 1))), (6, .int (nI p)), (5, .int (nI (wl a))), (4, .int (nI (List.length (lsd a p (lpl k a p) (u9 + 1))))), (0, .ref mo), (1, .long (lN a)), (3, .int (nI k))]) hx hb dX10_layLeft_84 hl (k := 0) rfl (q_inc (k := 1) (by omega)) (by decide) rfl (fun ls hl => ?_)
            refine lv_goto (tgt := 32) hx hb dX10_layLeft_87 (by decide) ?_
            exact ih_32 (u9 + 1, s3) _ _ _ ⟨(by unfold scn; split <;> omega), (by omega), hS3, hP, hD, hS, (lv_sub hl [0, 1, 2, 3, 4, 5, 6] rfl)⟩ (by show wl a + 1 - (p + (u9 + 1)) < wl a + 1 - (p + u9); omega)
          · intro hcut_84
            have hl56 := q_lsd_56 (k := k) (p := p) (s := u9) hwa (by omega) hs
            refine q_ifb_ne (tgt := 84) hx hb dX10_layLeft_69 (by decide) (fun c_69 => ?_) (fun c_69 => ?_)
            · skip
              have e9 : lsd a p (lpl k a p) (u9 + 1) = lsd a p (lpl k a p) u9 := if_pos c_69
              exact hcut_84 s2 _ _ _ _ ⟨(by rw [e9]; exact hS2), hP, hD, hS, (by rw [e9]; exact lv_sub hl [1, 2, 3, 4, 5, 6, 7] rfl), rfl⟩
            · skip
              have e9 : lsd a p (lpl k a p) (u9 + 1) = lsd a p (lpl k a p) u9 ++ [wof a p (p + u9) (wl a)] := if_neg c_69
              refine lv_aload_n hx hb dX10_layLeft_72 rfl (lv_at hl 5 rfl) ?_
              refine va_get (D := D) (own := RX10) (ref := "FuzzyFensModel") (ci := 9) (v := .ref ml) (C := RX10) (T := TX10) (N := 15) hx hb hts iX10_layLeft_X10 hown hK hR 0 rfl rfl 13 (by decide) (hts (.fieldLink RX10 38 "FuzzyFensModel" "left" "[J") (List.mem_of_getElem? (i := 1) rfl)) (fun _ h9 => h9) rfl dX10_layLeft_73 ?_
              refine lv_iload hx hb dX10_layLeft_76 (lv_at hl 4 rfl) ?_
              refine lv_lload hx hb dX10_layLeft_78 (lv_at hl 0 rfl) ?_
              refine va_last (D := D) hx hb hK hP hD hS 0 0 rfl rfl (vp_in_nI (n := List.length (lsd a p (lpl k a p) u9)) (N := 64) (by omega) (by decide)) dX10_layLeft_80 (fun H_4 locs_5 hP hD hS => ?_)
              rw [nI_clamp (n := List.length (lsd a p (lpl k a p) u9)) (by omega)] at hP hD
              have hP : va_P D vwCl [(ml, .inl (k10, 64, .inr (.inl (vp_updL s2 (List.length (lsd a p (lpl k a p) u9)) (lN (wof a p (p + u9) (wl a)))))))] H_4 := hP
              have hD : va_D A [(ml, .inl (k10, 64, .inr (.inl (vp_updL s2 (List.length (lsd a p (lpl k a p) u9)) (lN (wof a p (p + u9) (wl a)))))))] := hD
              have hR := q_ro hR0 hna hS
              refine lv_iinc (v := nI (List.length (lsd a p (lpl k a p) u9) + 1)) (lv' := [(4, .int (nI (List.length (lsd a p (lpl k a p) u9) + 1))), (8, .long (lN (wof a p (p + u9) (wl a)))), (7, .int (nI (p + u9))), (6, .int (nI p)), (5, .int (nI (wl a))), (0, .ref mo), (1, .long (lN a)), (3, .int (nI k))]) hx hb dX10_layLeft_81 hl (k := 4) rfl (q_inc (k := 1) (by omega)) (by decide) rfl (fun ls hl => ?_)
              exact hcut_84 (vp_updL s2 (List.length (lsd a p (lpl k a p) u9)) (lN (wof a p (p + u9) (wl a)))) _ _ _ _ ⟨(by rw [e9]; exact cts_app hS2), hP, hD, hS, (by rw [e9, len_app]; exact lv_sub hl [2, 3, 4, 0, 5, 6, 7] rfl), rfl⟩
        · skip
          refine lv_iload_n hx hb dX10_layLeft_46 rfl (lv_at hl 6 rfl) ?_
          refine lv_iconst (v := nI 1) hx hb dX10_layLeft_47 (by decide) ?_
          refine q_icmp_le (a := k) (b := 1) (tgt := 90) hx hb dX10_layLeft_48 (by decide) (by omega) (by omega) (fun c_48 => ?_) (fun c_48 => ?_)
          · skip
            refine lv_iinc (v := nI (p + 1)) (lv' := [(6, .int (nI (p + 1))), (7, .int (nI (p + u9))), (5, .int (nI (wl a))), (4, .int (nI (List.length (lsd a p (lpl k a p) u9)))), (0, .ref mo), (1, .long (lN a)), (3, .int (nI k))]) hx hb dX10_layLeft_90 hl (k := 1) rfl (q_inc (k := 1) (by omega)) (by decide) rfl (fun ls hl => ?_)
            refine lv_goto (tgt := 12) hx hb dX10_layLeft_93 (by decide) ?_
            have es : u9 = scn k a p := by unfold scn at hs ⊢; by_cases hk9 : 1 < k; (rw [if_pos hk9] at hs ⊢; omega); (rw [if_neg hk9] at hs ⊢; omega)
            rw [es] at hl hS2
            exact ih_12 (p + 1, s2) _ _ _ ⟨(by omega), (by omega), hS2, hP, hD, hS, (lv_sub hl [0, 2, 3, 4, 5, 6] rfl)⟩ (by show wl a + 1 - (p + 1) < wl a + 1 - p; omega)
          · skip
            refine lv_lload_n hx hb dX10_layLeft_51 rfl (lv_at hl 5 rfl) ?_
            refine lv_iload hx hb dX10_layLeft_52 (lv_at hl 1 rfl) ?_
            refine lv_iload hx hb dX10_layLeft_54 (lv_at hl 0 rfl) ?_
            refine vp_callSl (W.runS (As := [.long (lN a), .int (nI p), .int (nI (p + u9))]) (rest := []) ⟨hx, hb, hml, hown, hts⟩ (c_X10_without (l := l) (D := D) (a := a) (p9 := p) (q9 := p + u9) (ha := by omega) (hw := by omega) (hp9 := by omega) (hq9 := by omega)) (va_cwS 3 hts gX10_layLeft_X10_without rfl rfl rfl (by decide +kernel) ⟨Nat.le_of_ble_eq_true rfl, Nat.le_of_ble_eq_true rfl⟩) ⟨qP_blind, (qP_of (q_Pof (fun _ h => absurd h List.not_mem_nil)) (hK.sub (tys' := []) [] rfl) hNw)⟩ rfl rfl hl.1 rfl (lv_room (Nat.le_of_ble_eq_true rfl)) dX10_layLeft_56 ⟨Nat.le_of_ble_eq_true rfl, Nat.le_of_ble_eq_true rfl⟩) (fun r_6 hr_6 => ?_)
            subst hr_6
            refine lv_lstore (lv' := [(8, .long (lN (wof a p (p + u9) (wl a)))), (7, .int (nI (p + u9))), (6, .int (nI p)), (5, .int (nI (wl a))), (4, .int (nI (List.length (lsd a p (lpl k a p) u9)))), (0, .ref mo), (1, .long (lN a)), (3, .int (nI k))]) hx hb dX10_layLeft_59 hl (by decide) rfl (fun ls hl => ?_)
            refine lv_aload_n hx hb dX10_layLeft_61 rfl (lv_at hl 5 rfl) ?_
            refine lv_lload hx hb dX10_layLeft_62 (lv_at hl 0 rfl) ?_
            refine lv_iload hx hb dX10_layLeft_64 (lv_at hl 4 rfl) ?_
            refine vp_callSi (W.runV (As := [.long (lN (wof a p (p + u9) (wl a))), .int (nI (List.length (lsd a p (lpl k a p) u9)))]) (rest := []) ⟨hx, hb, hml, hown, hts⟩ (c_X10_isOnLeft (l := l) (D := D) (mo := mo) (mw := mw) (mct := mct) (mp := mp) (mnm := mnm) (m1 := m1) (m2 := m2) (mt := mt) (mk := mk) (mr := mr) (ml := ml) (mq := mq) (k10 := k10) (th := th) (n := n) (om := om) (tm := tm) (fl := s2) (L := lsd a p (lpl k a p) u9) (v := wof a p (p + u9) (wl a)) (hL := hS2) (hLb := lsd_bnd hwa p (lpl_bnd hwa p) u9) (hLl := (by have := q_lsd_56 (k := k) (p := p) (s := u9) hwa (by omega) hs; omega)) (hv9 := (by have := wof_50 (n := a) (p := p) (q := p + u9) hwa; omega))) (cwV 2 hts gX10_layLeft_X10_isOnLeft rfl rfl rfl (by decide +kernel) ⟨Nat.le_of_ble_eq_true rfl, Nat.le_of_ble_eq_true rfl⟩) ⟨qP_blind, (va_recv hK hR (ci := 9) (q0 := 0) rfl rfl), (qP_of (show va_P D vwCl [(mo, .inr (9, [.int th, .int (nI n), .ref mw, .ref mct, .ref mp, .ref mnm, .ref m1, .ref m2, .int om, .int tm, .ref mt, .ref mk, .ref mr, .ref ml, .ref mq])), (ml, .inl (k10, 64, .inr (.inl s2)))] _ from (va_P.app (hR.sub (ws' := [(mo, .inr (9, [.int th, .int (nI n), .ref mw, .ref mct, .ref mp, .ref mnm, .ref m1, .ref m2, .int om, .int tm, .ref mt, .ref mk, .ref mr, .ref ml, .ref mq]))]) [0] rfl) (hP.sub (ws' := [(ml, .inl (k10, 64, .inr (.inl s2)))]) [0] rfl))) (hK.sub (tys' := [(k10, .long)]) [0] rfl) hNw)⟩ rfl rfl hl.1 rfl (lv_room (Nat.le_of_ble_eq_true rfl)) dX10_layLeft_66 ⟨Nat.le_of_ble_eq_true rfl, Nat.le_of_ble_eq_true rfl⟩) (fun r_7 hr_7 => ?_)
            subst hr_7
            have hl56 := q_lsd_56 (k := k) (p := p) (s := u9) hwa (by omega) hs
            refine q_cut 84 (fun (x : (Nat → Int64)) (H : Heap) (locs : List Loc) (ls : Array Slot) (st : List Value) => match x with | s3 => (∀ j, j < List.length (lsd a p (lpl k a p) (u9 + 1)) → s3 j = lN (List.getD (lsd a p (lpl k a p) (u9 + 1)) j 0)) ∧ va_P D vwCl [(ml, .inl (k10, 64, .inr (.inl s3)))] H ∧ va_D A [(ml, .inl (k10, 64, .inr (.inl s3)))] ∧ va_S A s.heap H locs ∧ lv_has ls 10 [(7, .int (nI (p + u9))), (6, .int (nI p)), (5, .int (nI (wl a))), (4, .int (nI (List.length (lsd a p (lpl k a p) (u9 + 1))))), (0, .ref mo), (1, .long (lN a)), (3, .int (nI k))] ∧ [] = st) ?_ ?_
            · clear hl; clear hP hD hS
              rintro s3 H locs ls st hI
              obtain ⟨hS3, hP, hD, hS, hl, rfl⟩ := hI
              have hR := q_ro hR0 hna hS
              refine lv_iinc (v := nI (p + u9 + 1)) (lv' := [(7, .int (nI (p + u9 + 1))), (6, .int (nI p)), (5, .int (nI (wl a))), (4, .int (nI (List.length (lsd a p (lpl k a p) (u9 + 1))))), (0, .ref mo), (1, .long (lN a)), (3, .int (nI k))]) hx hb dX10_layLeft_84 hl (k := 0) rfl (q_inc (k := 1) (by omega)) (by decide) rfl (fun ls hl => ?_)
              refine lv_goto (tgt := 32) hx hb dX10_layLeft_87 (by decide) ?_
              exact ih_32 (u9 + 1, s3) _ _ _ ⟨(by unfold scn; split <;> omega), (by omega), hS3, hP, hD, hS, (lv_sub hl [0, 1, 2, 3, 4, 5, 6] rfl)⟩ (by show wl a + 1 - (p + (u9 + 1)) < wl a + 1 - (p + u9); omega)
            · intro hcut_84
              have hl56 := q_lsd_56 (k := k) (p := p) (s := u9) hwa (by omega) hs
              refine q_ifb_ne (tgt := 84) hx hb dX10_layLeft_69 (by decide) (fun c_69 => ?_) (fun c_69 => ?_)
              · skip
                have e9 : lsd a p (lpl k a p) (u9 + 1) = lsd a p (lpl k a p) u9 := if_pos c_69
                exact hcut_84 s2 _ _ _ _ ⟨(by rw [e9]; exact hS2), hP, hD, hS, (by rw [e9]; exact lv_sub hl [1, 2, 3, 4, 5, 6, 7] rfl), rfl⟩
              · skip
                have e9 : lsd a p (lpl k a p) (u9 + 1) = lsd a p (lpl k a p) u9 ++ [wof a p (p + u9) (wl a)] := if_neg c_69
                refine lv_aload_n hx hb dX10_layLeft_72 rfl (lv_at hl 5 rfl) ?_
                refine va_get (D := D) (own := RX10) (ref := "FuzzyFensModel") (ci := 9) (v := .ref ml) (C := RX10) (T := TX10) (N := 15) hx hb hts iX10_layLeft_X10 hown hK hR 0 rfl rfl 13 (by decide) (hts (.fieldLink RX10 38 "FuzzyFensModel" "left" "[J") (List.mem_of_getElem? (i := 1) rfl)) (fun _ h9 => h9) rfl dX10_layLeft_73 ?_
                refine lv_iload hx hb dX10_layLeft_76 (lv_at hl 4 rfl) ?_
                refine lv_lload hx hb dX10_layLeft_78 (lv_at hl 0 rfl) ?_
                refine va_last (D := D) hx hb hK hP hD hS 0 0 rfl rfl (vp_in_nI (n := List.length (lsd a p (lpl k a p) u9)) (N := 64) (by omega) (by decide)) dX10_layLeft_80 (fun H_8 locs_9 hP hD hS => ?_)
                rw [nI_clamp (n := List.length (lsd a p (lpl k a p) u9)) (by omega)] at hP hD
                have hP : va_P D vwCl [(ml, .inl (k10, 64, .inr (.inl (vp_updL s2 (List.length (lsd a p (lpl k a p) u9)) (lN (wof a p (p + u9) (wl a)))))))] H_8 := hP
                have hD : va_D A [(ml, .inl (k10, 64, .inr (.inl (vp_updL s2 (List.length (lsd a p (lpl k a p) u9)) (lN (wof a p (p + u9) (wl a)))))))] := hD
                have hR := q_ro hR0 hna hS
                refine lv_iinc (v := nI (List.length (lsd a p (lpl k a p) u9) + 1)) (lv' := [(4, .int (nI (List.length (lsd a p (lpl k a p) u9) + 1))), (8, .long (lN (wof a p (p + u9) (wl a)))), (7, .int (nI (p + u9))), (6, .int (nI p)), (5, .int (nI (wl a))), (0, .ref mo), (1, .long (lN a)), (3, .int (nI k))]) hx hb dX10_layLeft_81 hl (k := 4) rfl (q_inc (k := 1) (by omega)) (by decide) rfl (fun ls hl => ?_)
                exact hcut_84 (vp_updL s2 (List.length (lsd a p (lpl k a p) u9)) (lN (wof a p (p + u9) (wl a)))) _ _ _ _ ⟨(by rw [e9]; exact cts_app hS2), hP, hD, hS, (by rw [e9, len_app]; exact lv_sub hl [2, 3, 4, 0, 5, 6, 7] rfl), rfl⟩
    · skip
      refine lv_iload_n hx hb dX10_layLeft_24 rfl (lv_at hl 5 rfl) ?_
      refine q_if_le (a := k) (tgt := 96) hx hb dX10_layLeft_25 (by decide) (by omega) (fun c_25 => ?_) (fun c_25 => ?_)
      · skip
        refine lv_iload hx hb dX10_layLeft_96 (lv_at hl 2 rfl) ?_
        have ep : p = (if 0 < k then wl a + 1 else 1) := by split <;> omega
        have enb : nbl k a = lpl k a p := by unfold nbl; rw [← ep]
        exact W.iret (v := nI (List.length (lpl k a p))) hx hb hr (fun t9 ht hW => ⟨⟨nI (List.length (lpl k a p)), s1, rfl, ⟨(by rw [enb]), (by rw [enb]; exact hS1)⟩, by show va_P D vwCl _ t9.heap; rw [ht]; exact hP⟩, hS.F ht⟩) hS.2.2 dX10_layLeft_98
      · skip
        refine lv_iload hx hb dX10_layLeft_28 (lv_at hl 0 rfl) ?_
        refine lv_istore (lv' := [(7, .int (nI p)), (6, .int (nI p)), (5, .int (nI (wl a))), (4, .int (nI (List.length (lpl k a p)))), (0, .ref mo), (1, .long (lN a)), (3, .int (nI k))]) hx hb dX10_layLeft_30 hl (by decide) rfl (fun ls hl => ?_)
        refine q_loop (fun (x : (Nat) × (Nat → Int64)) (H : Heap) (locs : List Loc) (ls : Array Slot) => match x with | (u9, s2) => (u9 ≤ scn k a p) ∧ (p + u9 ≤ wl a + 1) ∧ (∀ j, j < List.length (lsd a p (lpl k a p) u9) → s2 j = lN (List.getD (lsd a p (lpl k a p) u9) j 0)) ∧ va_P D vwCl [(ml, .inl (k10, 64, .inr (.inl s2)))] H ∧ va_D A [(ml, .inl (k10, 64, .inr (.inl s2)))] ∧ va_S A s.heap H locs ∧ lv_has ls 10 [(7, .int (nI (p + u9))), (6, .int (nI p)), (5, .int (nI (wl a))), (4, .int (nI (List.length (lsd a p (lpl k a p) u9)))), (0, .ref mo), (1, .long (lN a)), (3, .int (nI k))]) (fun (x : (Nat) × (Nat → Int64)) => match x with | (u9, s2) => wl a + 1 - (p + u9)) (0, s1) ⟨(by omega), (by omega), hS1, hP, hD, hS, (lv_sub hl [0, 1, 2, 3, 4, 5, 6] rfl)⟩ ?_
        clear hl
        clear hP hD hS
        rintro ⟨u9, s2⟩ H locs ls hI ih_32
        obtain ⟨hs, hps, hS2, hP, hD, hS, hl⟩ := hI
        have hR := q_ro hR0 hna hS
        refine lv_iload hx hb dX10_layLeft_32 (lv_at hl 0 rfl) ?_
        refine lv_iload hx hb dX10_layLeft_34 (lv_at hl 2 rfl) ?_
        refine q_icmp_gt (a := p + u9) (b := wl a) (tgt := 90) hx hb dX10_layLeft_36 (by decide) (by omega) (by omega) (fun c_36 => ?_) (fun c_36 => ?_)
        · skip
          refine lv_iinc (v := nI (p + 1)) (lv' := [(6, .int (nI (p + 1))), (7, .int (nI (p + u9))), (5, .int (nI (wl a))), (4, .int (nI (List.length (lsd a p (lpl k a p) u9)))), (0, .ref mo), (1, .long (lN a)), (3, .int (nI k))]) hx hb dX10_layLeft_90 hl (k := 1) rfl (q_inc (k := 1) (by omega)) (by decide) rfl (fun ls hl => ?_)
          refine lv_goto (tgt := 12) hx hb dX10_layLeft_93 (by decide) ?_
          have es : u9 = scn k a p := by unfold scn at hs ⊢; by_cases hk9 : 1 < k; (rw [if_pos hk9] at hs ⊢; omega); (rw [if_neg hk9] at hs ⊢; omega)
          rw [es] at hl hS2
          exact ih_12 (p + 1, s2) _ _ _ ⟨(by omega), (by omega), hS2, hP, hD, hS, (lv_sub hl [0, 2, 3, 4, 5, 6] rfl)⟩ (by show wl a + 1 - (p + 1) < wl a + 1 - p; omega)
        · skip
          refine lv_iload hx hb dX10_layLeft_39 (lv_at hl 0 rfl) ?_
          refine lv_iload hx hb dX10_layLeft_41 (lv_at hl 1 rfl) ?_
          refine q_icmp_eq (a := p + u9) (b := p) (tgt := 51) hx hb dX10_layLeft_43 (by decide) (by omega) (by omega) (fun c_43 => ?_) (fun c_43 => ?_)
          · skip
            refine lv_lload_n hx hb dX10_layLeft_51 rfl (lv_at hl 5 rfl) ?_
            refine lv_iload hx hb dX10_layLeft_52 (lv_at hl 1 rfl) ?_
            refine lv_iload hx hb dX10_layLeft_54 (lv_at hl 0 rfl) ?_
            refine vp_callSl (W.runS (As := [.long (lN a), .int (nI p), .int (nI (p + u9))]) (rest := []) ⟨hx, hb, hml, hown, hts⟩ (c_X10_without (l := l) (D := D) (a := a) (p9 := p) (q9 := p + u9) (ha := by omega) (hw := by omega) (hp9 := by omega) (hq9 := by omega)) (va_cwS 3 hts gX10_layLeft_X10_without rfl rfl rfl (by decide +kernel) ⟨Nat.le_of_ble_eq_true rfl, Nat.le_of_ble_eq_true rfl⟩) ⟨qP_blind, (qP_of (q_Pof (fun _ h => absurd h List.not_mem_nil)) (hK.sub (tys' := []) [] rfl) hNw)⟩ rfl rfl hl.1 rfl (lv_room (Nat.le_of_ble_eq_true rfl)) dX10_layLeft_56 ⟨Nat.le_of_ble_eq_true rfl, Nat.le_of_ble_eq_true rfl⟩) (fun r_10 hr_10 => ?_)
            subst hr_10
            refine lv_lstore (lv' := [(8, .long (lN (wof a p (p + u9) (wl a)))), (7, .int (nI (p + u9))), (6, .int (nI p)), (5, .int (nI (wl a))), (4, .int (nI (List.length (lsd a p (lpl k a p) u9)))), (0, .ref mo), (1, .long (lN a)), (3, .int (nI k))]) hx hb dX10_layLeft_59 hl (by decide) rfl (fun ls hl => ?_)
            refine lv_aload_n hx hb dX10_layLeft_61 rfl (lv_at hl 5 rfl) ?_
            refine lv_lload hx hb dX10_layLeft_62 (lv_at hl 0 rfl) ?_
            refine lv_iload hx hb dX10_layLeft_64 (lv_at hl 4 rfl) ?_
            refine vp_callSi (W.runV (As := [.long (lN (wof a p (p + u9) (wl a))), .int (nI (List.length (lsd a p (lpl k a p) u9)))]) (rest := []) ⟨hx, hb, hml, hown, hts⟩ (c_X10_isOnLeft (l := l) (D := D) (mo := mo) (mw := mw) (mct := mct) (mp := mp) (mnm := mnm) (m1 := m1) (m2 := m2) (mt := mt) (mk := mk) (mr := mr) (ml := ml) (mq := mq) (k10 := k10) (th := th) (n := n) (om := om) (tm := tm) (fl := s2) (L := lsd a p (lpl k a p) u9) (v := wof a p (p + u9) (wl a)) (hL := hS2) (hLb := lsd_bnd hwa p (lpl_bnd hwa p) u9) (hLl := (by have := q_lsd_56 (k := k) (p := p) (s := u9) hwa (by omega) hs; omega)) (hv9 := (by have := wof_50 (n := a) (p := p) (q := p + u9) hwa; omega))) (cwV 2 hts gX10_layLeft_X10_isOnLeft rfl rfl rfl (by decide +kernel) ⟨Nat.le_of_ble_eq_true rfl, Nat.le_of_ble_eq_true rfl⟩) ⟨qP_blind, (va_recv hK hR (ci := 9) (q0 := 0) rfl rfl), (qP_of (show va_P D vwCl [(mo, .inr (9, [.int th, .int (nI n), .ref mw, .ref mct, .ref mp, .ref mnm, .ref m1, .ref m2, .int om, .int tm, .ref mt, .ref mk, .ref mr, .ref ml, .ref mq])), (ml, .inl (k10, 64, .inr (.inl s2)))] _ from (va_P.app (hR.sub (ws' := [(mo, .inr (9, [.int th, .int (nI n), .ref mw, .ref mct, .ref mp, .ref mnm, .ref m1, .ref m2, .int om, .int tm, .ref mt, .ref mk, .ref mr, .ref ml, .ref mq]))]) [0] rfl) (hP.sub (ws' := [(ml, .inl (k10, 64, .inr (.inl s2)))]) [0] rfl))) (hK.sub (tys' := [(k10, .long)]) [0] rfl) hNw)⟩ rfl rfl hl.1 rfl (lv_room (Nat.le_of_ble_eq_true rfl)) dX10_layLeft_66 ⟨Nat.le_of_ble_eq_true rfl, Nat.le_of_ble_eq_true rfl⟩) (fun r_11 hr_11 => ?_)
            subst hr_11
            have hl56 := q_lsd_56 (k := k) (p := p) (s := u9) hwa (by omega) hs
            refine q_cut 84 (fun (x : (Nat → Int64)) (H : Heap) (locs : List Loc) (ls : Array Slot) (st : List Value) => match x with | s3 => (∀ j, j < List.length (lsd a p (lpl k a p) (u9 + 1)) → s3 j = lN (List.getD (lsd a p (lpl k a p) (u9 + 1)) j 0)) ∧ va_P D vwCl [(ml, .inl (k10, 64, .inr (.inl s3)))] H ∧ va_D A [(ml, .inl (k10, 64, .inr (.inl s3)))] ∧ va_S A s.heap H locs ∧ lv_has ls 10 [(7, .int (nI (p + u9))), (6, .int (nI p)), (5, .int (nI (wl a))), (4, .int (nI (List.length (lsd a p (lpl k a p) (u9 + 1))))), (0, .ref mo), (1, .long (lN a)), (3, .int (nI k))] ∧ [] = st) ?_ ?_
            · clear hl; clear hP hD hS
              rintro s3 H locs ls st hI
              obtain ⟨hS3, hP, hD, hS, hl, rfl⟩ := hI
              have hR := q_ro hR0 hna hS
              refine lv_iinc (v := nI (p + u9 + 1)) (lv' := [(7, .int (nI (p + u9 + 1))), (6, .int (nI p)), (5, .int (nI (wl a))), (4, .int (nI (List.length (lsd a p (lpl k a p) (u9 + 1))))), (0, .ref mo), (1, .long (lN a)), (3, .int (nI k))]) hx hb dX10_layLeft_84 hl (k := 0) rfl (q_inc (k := 1) (by omega)) (by decide) rfl (fun ls hl => ?_)
              refine lv_goto (tgt := 32) hx hb dX10_layLeft_87 (by decide) ?_
              exact ih_32 (u9 + 1, s3) _ _ _ ⟨(by unfold scn; split <;> omega), (by omega), hS3, hP, hD, hS, (lv_sub hl [0, 1, 2, 3, 4, 5, 6] rfl)⟩ (by show wl a + 1 - (p + (u9 + 1)) < wl a + 1 - (p + u9); omega)
            · intro hcut_84
              have hl56 := q_lsd_56 (k := k) (p := p) (s := u9) hwa (by omega) hs
              refine q_ifb_ne (tgt := 84) hx hb dX10_layLeft_69 (by decide) (fun c_69 => ?_) (fun c_69 => ?_)
              · skip
                have e9 : lsd a p (lpl k a p) (u9 + 1) = lsd a p (lpl k a p) u9 := if_pos c_69
                exact hcut_84 s2 _ _ _ _ ⟨(by rw [e9]; exact hS2), hP, hD, hS, (by rw [e9]; exact lv_sub hl [1, 2, 3, 4, 5, 6, 7] rfl), rfl⟩
              · skip
                have e9 : lsd a p (lpl k a p) (u9 + 1) = lsd a p (lpl k a p) u9 ++ [wof a p (p + u9) (wl a)] := if_neg c_69
                refine lv_aload_n hx hb dX10_layLeft_72 rfl (lv_at hl 5 rfl) ?_
                refine va_get (D := D) (own := RX10) (ref := "FuzzyFensModel") (ci := 9) (v := .ref ml) (C := RX10) (T := TX10) (N := 15) hx hb hts iX10_layLeft_X10 hown hK hR 0 rfl rfl 13 (by decide) (hts (.fieldLink RX10 38 "FuzzyFensModel" "left" "[J") (List.mem_of_getElem? (i := 1) rfl)) (fun _ h9 => h9) rfl dX10_layLeft_73 ?_
                refine lv_iload hx hb dX10_layLeft_76 (lv_at hl 4 rfl) ?_
                refine lv_lload hx hb dX10_layLeft_78 (lv_at hl 0 rfl) ?_
                refine va_last (D := D) hx hb hK hP hD hS 0 0 rfl rfl (vp_in_nI (n := List.length (lsd a p (lpl k a p) u9)) (N := 64) (by omega) (by decide)) dX10_layLeft_80 (fun H_12 locs_13 hP hD hS => ?_)
                rw [nI_clamp (n := List.length (lsd a p (lpl k a p) u9)) (by omega)] at hP hD
                have hP : va_P D vwCl [(ml, .inl (k10, 64, .inr (.inl (vp_updL s2 (List.length (lsd a p (lpl k a p) u9)) (lN (wof a p (p + u9) (wl a)))))))] H_12 := hP
                have hD : va_D A [(ml, .inl (k10, 64, .inr (.inl (vp_updL s2 (List.length (lsd a p (lpl k a p) u9)) (lN (wof a p (p + u9) (wl a)))))))] := hD
                have hR := q_ro hR0 hna hS
                refine lv_iinc (v := nI (List.length (lsd a p (lpl k a p) u9) + 1)) (lv' := [(4, .int (nI (List.length (lsd a p (lpl k a p) u9) + 1))), (8, .long (lN (wof a p (p + u9) (wl a)))), (7, .int (nI (p + u9))), (6, .int (nI p)), (5, .int (nI (wl a))), (0, .ref mo), (1, .long (lN a)), (3, .int (nI k))]) hx hb dX10_layLeft_81 hl (k := 4) rfl (q_inc (k := 1) (by omega)) (by decide) rfl (fun ls hl => ?_)
                exact hcut_84 (vp_updL s2 (List.length (lsd a p (lpl k a p) u9)) (lN (wof a p (p + u9) (wl a)))) _ _ _ _ ⟨(by rw [e9]; exact cts_app hS2), hP, hD, hS, (by rw [e9, len_app]; exact lv_sub hl [2, 3, 4, 0, 5, 6, 7] rfl), rfl⟩
          · skip
            refine lv_iload_n hx hb dX10_layLeft_46 rfl (lv_at hl 6 rfl) ?_
            refine lv_iconst (v := nI 1) hx hb dX10_layLeft_47 (by decide) ?_
            refine q_icmp_le (a := k) (b := 1) (tgt := 90) hx hb dX10_layLeft_48 (by decide) (by omega) (by omega) (fun c_48 => ?_) (fun c_48 => ?_)
            · skip
              refine lv_iinc (v := nI (p + 1)) (lv' := [(6, .int (nI (p + 1))), (7, .int (nI (p + u9))), (5, .int (nI (wl a))), (4, .int (nI (List.length (lsd a p (lpl k a p) u9)))), (0, .ref mo), (1, .long (lN a)), (3, .int (nI k))]) hx hb dX10_layLeft_90 hl (k := 1) rfl (q_inc (k := 1) (by omega)) (by decide) rfl (fun ls hl => ?_)
              refine lv_goto (tgt := 12) hx hb dX10_layLeft_93 (by decide) ?_
              have es : u9 = scn k a p := by unfold scn at hs ⊢; by_cases hk9 : 1 < k; (rw [if_pos hk9] at hs ⊢; omega); (rw [if_neg hk9] at hs ⊢; omega)
              rw [es] at hl hS2
              exact ih_12 (p + 1, s2) _ _ _ ⟨(by omega), (by omega), hS2, hP, hD, hS, (lv_sub hl [0, 2, 3, 4, 5, 6] rfl)⟩ (by show wl a + 1 - (p + 1) < wl a + 1 - p; omega)
            · skip
              refine lv_lload_n hx hb dX10_layLeft_51 rfl (lv_at hl 5 rfl) ?_
              refine lv_iload hx hb dX10_layLeft_52 (lv_at hl 1 rfl) ?_
              refine lv_iload hx hb dX10_layLeft_54 (lv_at hl 0 rfl) ?_
              refine vp_callSl (W.runS (As := [.long (lN a), .int (nI p), .int (nI (p + u9))]) (rest := []) ⟨hx, hb, hml, hown, hts⟩ (c_X10_without (l := l) (D := D) (a := a) (p9 := p) (q9 := p + u9) (ha := by omega) (hw := by omega) (hp9 := by omega) (hq9 := by omega)) (va_cwS 3 hts gX10_layLeft_X10_without rfl rfl rfl (by decide +kernel) ⟨Nat.le_of_ble_eq_true rfl, Nat.le_of_ble_eq_true rfl⟩) ⟨qP_blind, (qP_of (q_Pof (fun _ h => absurd h List.not_mem_nil)) (hK.sub (tys' := []) [] rfl) hNw)⟩ rfl rfl hl.1 rfl (lv_room (Nat.le_of_ble_eq_true rfl)) dX10_layLeft_56 ⟨Nat.le_of_ble_eq_true rfl, Nat.le_of_ble_eq_true rfl⟩) (fun r_14 hr_14 => ?_)
              subst hr_14
              refine lv_lstore (lv' := [(8, .long (lN (wof a p (p + u9) (wl a)))), (7, .int (nI (p + u9))), (6, .int (nI p)), (5, .int (nI (wl a))), (4, .int (nI (List.length (lsd a p (lpl k a p) u9)))), (0, .ref mo), (1, .long (lN a)), (3, .int (nI k))]) hx hb dX10_layLeft_59 hl (by decide) rfl (fun ls hl => ?_)
              refine lv_aload_n hx hb dX10_layLeft_61 rfl (lv_at hl 5 rfl) ?_
              refine lv_lload hx hb dX10_layLeft_62 (lv_at hl 0 rfl) ?_
              refine lv_iload hx hb dX10_layLeft_64 (lv_at hl 4 rfl) ?_
              refine vp_callSi (W.runV (As := [.long (lN (wof a p (p + u9) (wl a))), .int (nI (List.length (lsd a p (lpl k a p) u9)))]) (rest := []) ⟨hx, hb, hml, hown, hts⟩ (c_X10_isOnLeft (l := l) (D := D) (mo := mo) (mw := mw) (mct := mct) (mp := mp) (mnm := mnm) (m1 := m1) (m2 := m2) (mt := mt) (mk := mk) (mr := mr) (ml := ml) (mq := mq) (k10 := k10) (th := th) (n := n) (om := om) (tm := tm) (fl := s2) (L := lsd a p (lpl k a p) u9) (v := wof a p (p + u9) (wl a)) (hL := hS2) (hLb := lsd_bnd hwa p (lpl_bnd hwa p) u9) (hLl := (by have := q_lsd_56 (k := k) (p := p) (s := u9) hwa (by omega) hs; omega)) (hv9 := (by have := wof_50 (n := a) (p := p) (q := p + u9) hwa; omega))) (cwV 2 hts gX10_layLeft_X10_isOnLeft rfl rfl rfl (by decide +kernel) ⟨Nat.le_of_ble_eq_true rfl, Nat.le_of_ble_eq_true rfl⟩) ⟨qP_blind, (va_recv hK hR (ci := 9) (q0 := 0) rfl rfl), (qP_of (show va_P D vwCl [(mo, .inr (9, [.int th, .int (nI n), .ref mw, .ref mct, .ref mp, .ref mnm, .ref m1, .ref m2, .int om, .int tm, .ref mt, .ref mk, .ref mr, .ref ml, .ref mq])), (ml, .inl (k10, 64, .inr (.inl s2)))] _ from (va_P.app (hR.sub (ws' := [(mo, .inr (9, [.int th, .int (nI n), .ref mw, .ref mct, .ref mp, .ref mnm, .ref m1, .ref m2, .int om, .int tm, .ref mt, .ref mk, .ref mr, .ref ml, .ref mq]))]) [0] rfl) (hP.sub (ws' := [(ml, .inl (k10, 64, .inr (.inl s2)))]) [0] rfl))) (hK.sub (tys' := [(k10, .long)]) [0] rfl) hNw)⟩ rfl rfl hl.1 rfl (lv_room (Nat.le_of_ble_eq_true rfl)) dX10_layLeft_66 ⟨Nat.le_of_ble_eq_true rfl, Nat.le_of_ble_eq_true rfl⟩) (fun r_15 hr_15 => ?_)
              subst hr_15
              have hl56 := q_lsd_56 (k := k) (p := p) (s := u9) hwa (by omega) hs
              refine q_cut 84 (fun (x : (Nat → Int64)) (H : Heap) (locs : List Loc) (ls : Array Slot) (st : List Value) => match x with | s3 => (∀ j, j < List.length (lsd a p (lpl k a p) (u9 + 1)) → s3 j = lN (List.getD (lsd a p (lpl k a p) (u9 + 1)) j 0)) ∧ va_P D vwCl [(ml, .inl (k10, 64, .inr (.inl s3)))] H ∧ va_D A [(ml, .inl (k10, 64, .inr (.inl s3)))] ∧ va_S A s.heap H locs ∧ lv_has ls 10 [(7, .int (nI (p + u9))), (6, .int (nI p)), (5, .int (nI (wl a))), (4, .int (nI (List.length (lsd a p (lpl k a p) (u9 + 1))))), (0, .ref mo), (1, .long (lN a)), (3, .int (nI k))] ∧ [] = st) ?_ ?_
              · clear hl; clear hP hD hS
                rintro s3 H locs ls st hI
                obtain ⟨hS3, hP, hD, hS, hl, rfl⟩ := hI
                have hR := q_ro hR0 hna hS
                refine lv_iinc (v := nI (p + u9 + 1)) (lv' := [(7, .int (nI (p + u9 + 1))), (6, .int (nI p)), (5, .int (nI (wl a))), (4, .int (nI (List.length (lsd a p (lpl k a p) (u9 + 1))))), (0, .ref mo), (1, .long (lN a)), (3, .int (nI k))]) hx hb dX10_layLeft_84 hl (k := 0) rfl (q_inc (k := 1) (by omega)) (by decide) rfl (fun ls hl => ?_)
                refine lv_goto (tgt := 32) hx hb dX10_layLeft_87 (by decide) ?_
                exact ih_32 (u9 + 1, s3) _ _ _ ⟨(by unfold scn; split <;> omega), (by omega), hS3, hP, hD, hS, (lv_sub hl [0, 1, 2, 3, 4, 5, 6] rfl)⟩ (by show wl a + 1 - (p + (u9 + 1)) < wl a + 1 - (p + u9); omega)
              · intro hcut_84
                have hl56 := q_lsd_56 (k := k) (p := p) (s := u9) hwa (by omega) hs
                refine q_ifb_ne (tgt := 84) hx hb dX10_layLeft_69 (by decide) (fun c_69 => ?_) (fun c_69 => ?_)
                · skip
                  have e9 : lsd a p (lpl k a p) (u9 + 1) = lsd a p (lpl k a p) u9 := if_pos c_69
                  exact hcut_84 s2 _ _ _ _ ⟨(by rw [e9]; exact hS2), hP, hD, hS, (by rw [e9]; exact lv_sub hl [1, 2, 3, 4, 5, 6, 7] rfl), rfl⟩
                · skip
                  have e9 : lsd a p (lpl k a p) (u9 + 1) = lsd a p (lpl k a p) u9 ++ [wof a p (p + u9) (wl a)] := if_neg c_69
                  refine lv_aload_n hx hb dX10_layLeft_72 rfl (lv_at hl 5 rfl) ?_
                  refine va_get (D := D) (own := RX10) (ref := "FuzzyFensModel") (ci := 9) (v := .ref ml) (C := RX10) (T := TX10) (N := 15) hx hb hts iX10_layLeft_X10 hown hK hR 0 rfl rfl 13 (by decide) (hts (.fieldLink RX10 38 "FuzzyFensModel" "left" "[J") (List.mem_of_getElem? (i := 1) rfl)) (fun _ h9 => h9) rfl dX10_layLeft_73 ?_
                  refine lv_iload hx hb dX10_layLeft_76 (lv_at hl 4 rfl) ?_
                  refine lv_lload hx hb dX10_layLeft_78 (lv_at hl 0 rfl) ?_
                  refine va_last (D := D) hx hb hK hP hD hS 0 0 rfl rfl (vp_in_nI (n := List.length (lsd a p (lpl k a p) u9)) (N := 64) (by omega) (by decide)) dX10_layLeft_80 (fun H_16 locs_17 hP hD hS => ?_)
                  rw [nI_clamp (n := List.length (lsd a p (lpl k a p) u9)) (by omega)] at hP hD
                  have hP : va_P D vwCl [(ml, .inl (k10, 64, .inr (.inl (vp_updL s2 (List.length (lsd a p (lpl k a p) u9)) (lN (wof a p (p + u9) (wl a)))))))] H_16 := hP
                  have hD : va_D A [(ml, .inl (k10, 64, .inr (.inl (vp_updL s2 (List.length (lsd a p (lpl k a p) u9)) (lN (wof a p (p + u9) (wl a)))))))] := hD
                  have hR := q_ro hR0 hna hS
                  refine lv_iinc (v := nI (List.length (lsd a p (lpl k a p) u9) + 1)) (lv' := [(4, .int (nI (List.length (lsd a p (lpl k a p) u9) + 1))), (8, .long (lN (wof a p (p + u9) (wl a)))), (7, .int (nI (p + u9))), (6, .int (nI p)), (5, .int (nI (wl a))), (0, .ref mo), (1, .long (lN a)), (3, .int (nI k))]) hx hb dX10_layLeft_81 hl (k := 4) rfl (q_inc (k := 1) (by omega)) (by decide) rfl (fun ls hl => ?_)
                  exact hcut_84 (vp_updL s2 (List.length (lsd a p (lpl k a p) u9)) (lN (wof a p (p + u9) (wl a)))) _ _ _ _ ⟨(by rw [e9]; exact cts_app hS2), hP, hD, hS, (by rw [e9, len_app]; exact lv_sub hl [2, 3, 4, 0, 5, 6, 7] rfl), rfl⟩
