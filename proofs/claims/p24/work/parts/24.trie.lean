set_option maxRecDepth 20000 in
theorem iX7_rowsSeen_X7 : ∀ w ∈ wsX70, w ∈ wsX7_rowsSeen := by decide +kernel
set_option maxHeartbeats 4000000 in
set_option maxRecDepth 100000 in
/-- Trie.rowsSeen -/
theorem c_X7_rowsSeen (l : Launch) (D : va_G) (tri : Nat) (ns : Nat) (na : Nat) (k : Nat)  : Met l yX7_rowsSeen wsX7_rowsSeen { frames := 1, cells := 0, slots := 0, locals := 20 } (va_Pc [.ref tri] (qP D ([(tri, .inr (6, [.ref ns])), (ns, .inr (3, [.ref na, .int (nI k)]))]) [])) (vp_Si (fun rv : Int32 => rv = nI k)) 0 0 (fun _ => False) := by
  refine Met.ofW (cc := cX7_rowsSeen) (maxL := 1) (ret := (some .int)) (by decide) rfl ?_
  intro pM eM s mi9 argsM belowM methM cM sM B hml hv
  obtain ⟨rfl, hR, hK, hNw⟩ := hv
  have hx := B.exec
  have hb := B.bytes
  have hr := B.returns
  have hts := atoms_spec (ws := wsX7_rowsSeen) B.pre
  have hown : s.vm.findClass RX7 = some mi9.cls := findClass_of_methodNamed B.named
  have hlocks := B.notSynchronized
  have hS : va_S (fun _ => False) s.heap s.heap [] := va_S.rf
  have hR : va_P D vwCl ([(tri, .inr (6, [.ref ns])), (ns, .inr (3, [.ref na, .int (nI k)]))]) s.heap := hR
  have hl := lv_entry ([.ref tri]) (n := 1) (Nat.le_of_ble_eq_true rfl)
  rw [lg_entry_eq]
  generalize (lg_sl ([.ref tri]) ++ List.replicate (1 - (lg_sl ([.ref tri])).length) Slot.unset).toArray = ls at hl ⊢
  have hl : lv_has ls 1 [(0, .ref tri)] := hl
  refine lv_aload_n hx hb dX7_rowsSeen_0 rfl (lv_at hl 0 rfl) ?_
  refine va_get (D := D) (own := RX7) (ref := "FuzzyFens$Trie") (ci := 6) (v := .ref ns) (C := RX7) (T := TX7) (N := 1) hx hb hts iX7_rowsSeen_X7 hown hK hR 0 rfl rfl 0 (by decide) (hts (.fieldLink RX7 14 "FuzzyFens$Trie" "packedRows" "LFuzzyFens$NumberSet;") (List.mem_of_getElem? (i := 1) rfl)) (fun _ h9 => h9) rfl dX7_rowsSeen_1 ?_
  refine vp_callSi (W.runV (As := []) (rest := []) ⟨hx, hb, hml, hown, hts⟩ (c_X4_size (l := l) (D := D) (ns := ns) (ar := na) (k := k) ) (cwV 0 hts gX7_rowsSeen_X4_size rfl rfl rfl (by decide +kernel) ⟨Nat.le_of_ble_eq_true rfl, Nat.le_of_ble_eq_true rfl⟩) ⟨qP_blind, (va_recv hK hR (ci := 3) (q0 := 1) rfl rfl), (qP_of (hR.sub (ws' := [(ns, .inr (3, [.ref na, .int (nI k)]))]) [1] rfl) (hK.sub (tys' := []) [] rfl) hNw)⟩ rfl rfl hl.1 rfl (lv_room (Nat.le_of_ble_eq_true rfl)) dX7_rowsSeen_4 ⟨Nat.le_of_ble_eq_true rfl, Nat.le_of_ble_eq_true rfl⟩) (fun r_1 hr_1 => ?_)
  subst hr_1
  exact W.iret (v := nI k) hx hb hr (fun t9 ht _ => ⟨nI k, rfl, rfl, ht⟩) (fun _ h => absurd h List.not_mem_nil) dX7_rowsSeen_7

set_option maxRecDepth 20000 in
theorem iX7_visit_X7 : ∀ w ∈ wsX70, w ∈ wsX7_visit := by decide +kernel
set_option maxHeartbeats 4000000 in
set_option maxRecDepth 100000 in
/-- Trie.visit -/
theorem c_X7_visit (l : Launch) (D : va_G) (sz : Nat) (tri : Nat) (ns : Nat) (na : Nat) (cJ : ClassId) (fN : Nat → Int64) (Lst : List Nat) (g : Nat) (gr : Nat) (ce : Nat) (cG : ClassId) (fc : Nat → Int32) (o : Nat) (t : Nat) (L : Nat → Nat) (row : Nat) (k : Nat) (hnd : ([ns, na] ++ [tri, g, gr, ce, o]).Nodup) (hSc : ∀ j, j < List.length Lst → fN j = lN (List.getD Lst j 0)) (hSb : lsb Lst) (hSl : List.length Lst < 401) (hg : gw t) (hk : k ≤ 3) (hr2 : row ≤ 10) (hL : ∀ j, j ≤ wl t → fc (11 * row + j) = nI (L j)) (hLb : ∀ j, j ≤ wl t → L j ≤ 30) : Met l yX7_visit wsX7_visit { frames := 3, cells := 0, slots := 0, locals := 69 } (va_Pc [.ref tri, .ref g, .int (nI row), .ref o, .int (nI k)] (qW D sz ([(tri, .inr (6, [.ref ns])), (g, .inr (1, [.ref gr])), (gr, .inr (2, [.ref ce])), (ce, .inl (cG, 121, .inl fc)), (o, .inr (7, [.long (lN t), .int (nI (wl t)), .long (lN (al t))]))]) [(ns, .inr (3, [.ref na, .int (nI (List.length Lst))])), (na, .inl (cJ, 401, .inr (.inl fN)))] [(cJ, .long), (cG, .int)])) (va_Qi (fun (rv : Int32) (uv : (Nat → Int64)) => rv = nI (vcn k t L) ∧ ∀ j, j < List.length (vis k t L Lst) → uv j = lN (List.getD (vis k t L Lst) j 0)) (fun (uv : (Nat → Int64)) (tv : State) => va_P D vwCl [(ns, .inr (3, [.ref na, .int (nI (List.length (vis k t L Lst)))])), (na, .inl (cJ, 401, .inr (.inl uv)))] tv.heap) (va_A [(ns, .inr (3, [.ref na, .int (nI (List.length Lst))])), (na, .inl (cJ, 401, .inr (.inl fN)))] sz)) 0 0 (va_A [(ns, .inr (3, [.ref na, .int (nI (List.length Lst))])), (na, .inl (cJ, 401, .inr (.inl fN)))] sz) := by
  refine Met.ofW (cc := cX7_visit) (maxL := 5) (ret := (some .int)) (by decide) rfl ?_
  intro pM eM s mi9 argsM belowM methM cM sM B hml hv
  obtain ⟨rfl, hsz, hR0, hP, hK, hNw⟩ := hv
  have hx := B.exec
  have hb := B.bytes
  have hr := B.returns
  have hts := atoms_spec (ws := wsX7_visit) B.pre
  have hown : s.vm.findClass RX7 = some mi9.cls := findClass_of_methodNamed B.named
  have hlocks := B.notSynchronized
  subst hsz
  have hna := q_na (RW := [(ns, .inr (3, [.ref na, .int (nI (List.length Lst))])), (na, .inl (cJ, 401, .inr (.inl fN)))]) (RO := [(tri, .inr (6, [.ref ns])), (g, .inr (1, [.ref gr])), (gr, .inr (2, [.ref ce])), (ce, .inl (cG, 121, .inl fc)), (o, .inr (7, [.long (lN t), .int (nI (wl t)), .long (lN (al t))]))]) hnd rfl rfl hR0
  have hD := q_D (RW := [(ns, .inr (3, [.ref na, .int (nI (List.length Lst))])), (na, .inl (cJ, 401, .inr (.inl fN)))]) (sz := s.heap.size) hnd rfl
  have hA : ∀ q : Nat, s.heap.size ≤ q → va_A [(ns, .inr (3, [.ref na, .int (nI (List.length Lst))])), (na, .inl (cJ, 401, .inr (.inl fN)))] s.heap.size q := fun q h => Or.inr h
  generalize hAe : va_A [(ns, .inr (3, [.ref na, .int (nI (List.length Lst))])), (na, .inl (cJ, 401, .inr (.inl fN)))] s.heap.size = A at hna hD hA ⊢
  have hS : va_S A s.heap s.heap [] := va_S.rf
  have hR := hR0
  have hP : va_P D vwCl [(ns, .inr (3, [.ref na, .int (nI (List.length Lst))])), (na, .inl (cJ, 401, .inr (.inl fN)))] s.heap := hP
  have hl := lv_entry ([.ref tri, .ref g, .int (nI row), .ref o, .int (nI k)]) (n := 5) (Nat.le_of_ble_eq_true rfl)
  rw [lg_entry_eq]
  generalize (lg_sl ([.ref tri, .ref g, .int (nI row), .ref o, .int (nI k)]) ++ List.replicate (5 - (lg_sl ([.ref tri, .ref g, .int (nI row), .ref o, .int (nI k)])).length) Slot.unset).toArray = ls at hl ⊢
  have hl : lv_has ls 5 [(0, .ref tri), (1, .ref g), (2, .int (nI row)), (3, .ref o), (4, .int (nI k))] := hl
  have hwt := gw_wl hg
  refine lv_aload_n hx hb dX7_visit_0 rfl (lv_at hl 1 rfl) ?_
  refine lv_iload_n hx hb dX7_visit_1 rfl (lv_at hl 2 rfl) ?_
  refine lv_aload_n hx hb dX7_visit_2 rfl (lv_at hl 3 rfl) ?_
  refine vp_callSi (W.runV (As := [.int (nI row), .ref o]) (rest := []) ⟨hx, hb, hml, hown, hts⟩ (c_X1_leastInRow (l := l) (D := D) (g := g) (gr := gr) (ce := ce) (cG := cG) (f := fc) (o := o) (n := t) (L := L) (row := row) (hr2 := hr2) (hg := hg) (hL := hL) (hLb := hLb)) (cwV 2 hts gX7_visit_X1_leastInRow rfl rfl rfl (by decide +kernel) ⟨Nat.le_of_ble_eq_true rfl, Nat.le_of_ble_eq_true rfl⟩) ⟨qP_blind, (va_recv hK hR (ci := 1) (q0 := 1) rfl rfl), (qP_of (hR.sub (ws' := [(g, .inr (1, [.ref gr])), (gr, .inr (2, [.ref ce])), (ce, .inl (cG, 121, .inl fc)), (o, .inr (7, [.long (lN t), .int (nI (wl t)), .long (lN (al t))]))]) [1, 2, 3, 4] rfl) (hK.sub (tys' := [(cG, .int)]) [1] rfl) hNw)⟩ rfl rfl hl.1 rfl (lv_room (Nat.le_of_ble_eq_true rfl)) dX7_visit_3 ⟨Nat.le_of_ble_eq_true rfl, Nat.le_of_ble_eq_true rfl⟩) (fun r_1 hr_1 => ?_)
  subst hr_1
  refine lv_iload hx hb dX7_visit_6 (lv_at hl 4 rfl) ?_
  refine q_icmp_le (a := rmin L (wl t)) (b := k) (tgt := 13) hx hb dX7_visit_8 (by decide) (by have h8 : rmin L (wl t) ≤ 30 := Nat.le_trans (rmin_le L (wl t)) (hLb 0 (by omega)); omega) (by omega) (fun c_8 => ?_) (fun c_8 => ?_)
  · skip
    refine lv_aload_n hx hb dX7_visit_13 rfl (lv_at hl 0 rfl) ?_
    refine va_get (D := D) (own := RX7) (ref := "FuzzyFens$Trie") (ci := 6) (v := .ref ns) (C := RX7) (T := TX7) (N := 1) hx hb hts iX7_visit_X7 hown hK hR 0 rfl rfl 0 (by decide) (hts (.fieldLink RX7 14 "FuzzyFens$Trie" "packedRows" "LFuzzyFens$NumberSet;") (List.mem_of_getElem? (i := 1) rfl)) (fun _ h9 => h9) rfl dX7_visit_14 ?_
    refine lv_aload_n hx hb dX7_visit_17 rfl (lv_at hl 1 rfl) ?_
    refine lv_iload_n hx hb dX7_visit_18 rfl (lv_at hl 2 rfl) ?_
    refine lv_aload_n hx hb dX7_visit_19 rfl (lv_at hl 3 rfl) ?_
    refine lv_iload hx hb dX7_visit_20 (lv_at hl 4 rfl) ?_
    refine lv_iconst (v := nI 1) hx hb dX7_visit_22 (by decide) ?_
    refine q_iadd (d := k + 1) hx hb dX7_visit_23 (by omega) ?_
    refine vp_callSl (W.runV (As := [.int (nI row), .ref o, .int (nI (k + 1))]) (rest := [.ref ns]) ⟨hx, hb, hml, hown, hts⟩ (c_X1_packedRow (l := l) (D := D) (g := g) (gr := gr) (ce := ce) (cG := cG) (f := fc) (o := o) (n := t) (L := L) (row := row) (cap := k + 1) (hr2 := hr2) (hg := hg) (hL := hL) (hLb := hLb) (hcap := by omega)) (cwV 3 hts gX7_visit_X1_packedRow rfl rfl rfl (by decide +kernel) ⟨Nat.le_of_ble_eq_true rfl, Nat.le_of_ble_eq_true rfl⟩) ⟨qP_blind, (va_recv hK hR (ci := 1) (q0 := 1) rfl rfl), (qP_of (hR.sub (ws' := [(g, .inr (1, [.ref gr])), (gr, .inr (2, [.ref ce])), (ce, .inl (cG, 121, .inl fc)), (o, .inr (7, [.long (lN t), .int (nI (wl t)), .long (lN (al t))]))]) [1, 2, 3, 4] rfl) (hK.sub (tys' := [(cG, .int)]) [1] rfl) hNw)⟩ rfl rfl hl.1 rfl (lv_room (Nat.le_of_ble_eq_true rfl)) dX7_visit_24 ⟨Nat.le_of_ble_eq_true rfl, Nat.le_of_ble_eq_true rfl⟩) (fun r_2 hr_2 => ?_)
    subst hr_2
    have hF := va_free (wc := [(ns, .inr (3, [.ref na, .int (nI (List.length Lst))])), (na, .inl (cJ, 401, .inr (.inl fN)))]) hD hS hA [0, 1] rfl
    refine va_callv (va_runV (As := [.long (lN (pck L (k + 1) (wl t + 1)))]) (rest := []) ⟨hx, hb, hml, hown, hts⟩ (c_X4_put (l := l) (D := D) (ns := ns) (ar := na) (cJ := cJ) (N := 401) (f := fN) (L := Lst) (v := pck L (k + 1) (wl t + 1)) (sz := s.heap.size) (hnd := (q_nds hnd [0, 1] rfl rfl)) (hL := hSc) (hLb := (fun j hj => Nat.lt_trans (hSb j hj) (by decide))) (hN := hSl) (hN2 := by omega) (hv := (Nat.lt_trans (pck_40 hwt hk L) (by decide)))) (cwV 1 hts gX7_visit_X4_put rfl rfl rfl (by decide +kernel) ⟨Nat.le_of_ble_eq_true rfl, Nat.le_of_ble_eq_true rfl⟩) ⟨qW_blind, (va_recv hK hP (ci := 3) (q0 := 0) rfl rfl), (qW_of (q_Pof (fun _ h => absurd h List.not_mem_nil)) (hP.sub (ws' := [(ns, .inr (3, [.ref na, .int (nI (List.length Lst))])), (na, .inl (cJ, 401, .inr (.inl fN)))]) [0, 1] rfl) (hK.sub (tys' := [(cJ, .long)]) [0] rfl) hNw)⟩ rfl rfl hl.1 rfl (lv_room (Nat.le_of_ble_eq_true rfl)) dX7_visit_27 ⟨Nat.le_of_ble_eq_true rfl, Nat.le_of_ble_eq_true rfl⟩) hS (fun q _ h => hF q h) hF (fun u_7 t_6 H_4 locs_5 ht hvm hr_3 hB hz1 hk1 hS => ?_)
    obtain ⟨f2_8, rfl⟩ : ∃ z, z = u_7 := ⟨_, rfl⟩
    replace hB : va_P D vwCl [(ns, .inr (3, [.ref na, .int (nI (List.length (ins Lst (pck L (k + 1) (wl t + 1)))))])), (na, .inl (cJ, 401, .inr (.inl f2_8)))] H_4 := by rw [← ht]; exact hB
    obtain ⟨hP, hD⟩ := q_join (wc := [(ns, .inr (3, [.ref na, .int (nI (List.length Lst))])), (na, .inl (cJ, 401, .inr (.inl fN)))]) (w1 := [(ns, .inr (3, [.ref na, .int (nI (List.length (ins Lst (pck L (k + 1) (wl t + 1)))))])), (na, .inl (cJ, 401, .inr (.inl f2_8)))]) (ws' := [(ns, .inr (3, [.ref na, .int (nI (List.length (ins Lst (pck L (k + 1) (wl t + 1)))))])), (na, .inl (cJ, 401, .inr (.inl f2_8)))]) [0, 1] hP hD rfl rfl hk1 hB rfl
    have hR := q_ro hR0 hna hS
    have hput := hr_3
    refine lv_iconst (v := nI 1) hx hb dX7_visit_30 (by decide) ?_
    have e9 : vis k t L Lst = ins Lst (pck L (k + 1) (wl t + 1)) := if_pos c_8
    exact W.iret (v := nI 1) hx hb hr (fun t9 ht hW => ⟨⟨nI 1, f2_8, rfl, ⟨(congrArg nI (if_pos c_8).symm), (by rw [e9]; exact hput)⟩, by show va_P D vwCl _ t9.heap; rw [ht, e9]; exact hP⟩, hS.F ht⟩) hS.2.2 dX7_visit_31
  · skip
    refine lv_iconst (v := nI 0) hx hb dX7_visit_11 (by decide) ?_
    have e9 : vis k t L Lst = Lst := if_neg (by omega)
    exact W.iret (v := nI 0) hx hb hr (fun t9 ht hW => ⟨⟨nI 0, fN, rfl, ⟨(congrArg nI (if_neg (by omega)).symm), (by rw [e9]; exact hSc)⟩, by show va_P D vwCl _ t9.heap; rw [ht, e9]; exact hP⟩, hS.F ht⟩) hS.2.2 dX7_visit_12

set_option maxRecDepth 20000 in
theorem iX7_reachAlong_X8 : ∀ w ∈ wsX80, w ∈ wsX7_reachAlong := by decide +kernel
set_option maxHeartbeats 4000000 in
set_option maxRecDepth 100000 in
/-- Trie.reachAlong -/
theorem c_X7_reachAlong (l : Launch) (D : va_G) (sz : Nat) (tri : Nat) (ns : Nat) (na : Nat) (cJ : ClassId) (fN : Nat → Int64) (Lst : List Nat) (g : Nat) (gr : Nat) (ce : Nat) (cG : ClassId) (fc : Nat → Int32) (w : Nat) (a : Nat) (p9 : Nat) (o : Nat) (t : Nat) (k : Nat) (hnd : ([ns, na, ce] ++ [tri, g, gr, w, o]).Nodup) (hSc : ∀ j, j < List.length Lst → fN j = lN (List.getD Lst j 0)) (hSb : lsb Lst) (hSl : List.length Lst ≤ 391) (hga : gw a) (hg : gw t) (hk : k ≤ 3) (hp : p9 ≤ wl a) (hrows : ∀ i j, i ≤ p9 → j ≤ wl t → fc (11 * i + j) = nI (lev (ltz a) (ltz t) i j)) : Met l yX7_reachAlong wsX7_reachAlong { frames := 4, cells := 0, slots := 0, locals := 93 } (va_Pc [.ref tri, .ref g, .ref w, .int (nI p9), .ref o, .int (nI k)] (qW D sz ([(tri, .inr (6, [.ref ns])), (g, .inr (1, [.ref gr])), (gr, .inr (2, [.ref ce])), (w, .inr (7, [.long (lN a), .int (nI (wl a)), .long (lN (al a))])), (o, .inr (7, [.long (lN t), .int (nI (wl t)), .long (lN (al t))]))]) [(ns, .inr (3, [.ref na, .int (nI (List.length Lst))])), (na, .inl (cJ, 401, .inr (.inl fN))), (ce, .inl (cG, 121, .inl fc))] [(cJ, .long), (cG, .int)])) (va_Qi (fun (rv : Int32) (uv : (Nat → Int64) × (Nat → Int32)) => rv = nI (rac k t a p9 (wl a - p9)) ∧ (∀ j, j < List.length (ral k t a p9 Lst (wl a - p9)) → uv.1 j = lN (List.getD (ral k t a p9 Lst (wl a - p9)) j 0)) ∧ ∀ i j, i ≤ wl a → j ≤ wl t → uv.2 (11 * i + j) = nI (lev (ltz a) (ltz t) i j)) (fun (uv : (Nat → Int64) × (Nat → Int32)) (tv : State) => va_P D vwCl [(ns, .inr (3, [.ref na, .int (nI (List.length (ral k t a p9 Lst (wl a - p9))))])), (na, .inl (cJ, 401, .inr (.inl uv.1))), (ce, .inl (cG, 121, .inl uv.2))] tv.heap) (va_A [(ns, .inr (3, [.ref na, .int (nI (List.length Lst))])), (na, .inl (cJ, 401, .inr (.inl fN))), (ce, .inl (cG, 121, .inl fc))] sz)) 0 0 (va_A [(ns, .inr (3, [.ref na, .int (nI (List.length Lst))])), (na, .inl (cJ, 401, .inr (.inl fN))), (ce, .inl (cG, 121, .inl fc))] sz) := by
  refine Met.ofW (cc := cX7_reachAlong) (maxL := 8) (ret := (some .int)) (by decide) rfl ?_
  intro pM eM s mi9 argsM belowM methM cM sM B hml hv
  obtain ⟨rfl, hsz, hR0, hP, hK, hNw⟩ := hv
  have hx := B.exec
  have hb := B.bytes
  have hr := B.returns
  have hts := atoms_spec (ws := wsX7_reachAlong) B.pre
  have hown : s.vm.findClass RX7 = some mi9.cls := findClass_of_methodNamed B.named
  have hlocks := B.notSynchronized
  subst hsz
  have hna := q_na (RW := [(ns, .inr (3, [.ref na, .int (nI (List.length Lst))])), (na, .inl (cJ, 401, .inr (.inl fN))), (ce, .inl (cG, 121, .inl fc))]) (RO := [(tri, .inr (6, [.ref ns])), (g, .inr (1, [.ref gr])), (gr, .inr (2, [.ref ce])), (w, .inr (7, [.long (lN a), .int (nI (wl a)), .long (lN (al a))])), (o, .inr (7, [.long (lN t), .int (nI (wl t)), .long (lN (al t))]))]) hnd rfl rfl hR0
  have hD := q_D (RW := [(ns, .inr (3, [.ref na, .int (nI (List.length Lst))])), (na, .inl (cJ, 401, .inr (.inl fN))), (ce, .inl (cG, 121, .inl fc))]) (sz := s.heap.size) hnd rfl
  have hA : ∀ q : Nat, s.heap.size ≤ q → va_A [(ns, .inr (3, [.ref na, .int (nI (List.length Lst))])), (na, .inl (cJ, 401, .inr (.inl fN))), (ce, .inl (cG, 121, .inl fc))] s.heap.size q := fun q h => Or.inr h
  generalize hAe : va_A [(ns, .inr (3, [.ref na, .int (nI (List.length Lst))])), (na, .inl (cJ, 401, .inr (.inl fN))), (ce, .inl (cG, 121, .inl fc))] s.heap.size = A at hna hD hA ⊢
  have hS : va_S A s.heap s.heap [] := va_S.rf
  have hR := hR0
  have hP : va_P D vwCl [(ns, .inr (3, [.ref na, .int (nI (List.length Lst))])), (na, .inl (cJ, 401, .inr (.inl fN))), (ce, .inl (cG, 121, .inl fc))] s.heap := hP
  have hl := lv_entry ([.ref tri, .ref g, .ref w, .int (nI p9), .ref o, .int (nI k)]) (n := 8) (Nat.le_of_ble_eq_true rfl)
  rw [lg_entry_eq]
  generalize (lg_sl ([.ref tri, .ref g, .ref w, .int (nI p9), .ref o, .int (nI k)]) ++ List.replicate (8 - (lg_sl ([.ref tri, .ref g, .ref w, .int (nI p9), .ref o, .int (nI k)])).length) Slot.unset).toArray = ls at hl ⊢
  have hl : lv_has ls 8 [(0, .ref tri), (1, .ref g), (2, .ref w), (3, .int (nI p9)), (4, .ref o), (5, .int (nI k))] := hl
  have hwt := gw_wl hg
  have hwa := gw_wl hga
  refine lv_iconst (v := nI 0) hx hb dX7_reachAlong_0 (by decide) ?_
  refine lv_istore (lv' := [(6, .int (nI 0)), (0, .ref tri), (1, .ref g), (2, .ref w), (3, .int (nI p9)), (4, .ref o), (5, .int (nI k))]) hx hb dX7_reachAlong_1 hl (by decide) rfl (fun ls hl => ?_)
  refine lv_iload_n hx hb dX7_reachAlong_3 rfl (lv_at hl 4 rfl) ?_
  refine lv_iconst (v := nI 1) hx hb dX7_reachAlong_4 (by decide) ?_
  refine q_iadd (d := p9 + 1) hx hb dX7_reachAlong_5 (by omega) ?_
  refine lv_istore (lv' := [(7, .int (nI (p9 + 1))), (6, .int (nI 0)), (0, .ref tri), (1, .ref g), (2, .ref w), (3, .int (nI p9)), (4, .ref o), (5, .int (nI k))]) hx hb dX7_reachAlong_6 hl (by decide) rfl (fun ls hl => ?_)
  refine q_loop (fun (x : (Nat) × (Nat → Int64) × (Nat → Int32)) (H : Heap) (locs : List Loc) (ls : Array Slot) => match x with | (q, s1, f1) => (p9 + q ≤ wl a) ∧ (∀ i j, i ≤ p9 + q → j ≤ wl t → f1 (11 * i + j) = nI (lev (ltz a) (ltz t) i j)) ∧ (∀ j, j < List.length (ral k t a p9 Lst q) → s1 j = lN (List.getD (ral k t a p9 Lst q) j 0)) ∧ va_P D vwCl [(ns, .inr (3, [.ref na, .int (nI (List.length (ral k t a p9 Lst q)))])), (na, .inl (cJ, 401, .inr (.inl s1))), (ce, .inl (cG, 121, .inl f1))] H ∧ va_D A [(ns, .inr (3, [.ref na, .int (nI (List.length (ral k t a p9 Lst q)))])), (na, .inl (cJ, 401, .inr (.inl s1))), (ce, .inl (cG, 121, .inl f1))] ∧ va_S A s.heap H locs ∧ lv_has ls 8 [(7, .int (nI (p9 + q + 1))), (6, .int (nI (rac k t a p9 q))), (0, .ref tri), (1, .ref g), (2, .ref w), (3, .int (nI p9)), (4, .ref o), (5, .int (nI k))]) (fun (x : (Nat) × (Nat → Int64) × (Nat → Int32)) => match x with | (q, s1, f1) => wl a - p9 - q) (0, fN, fc) ⟨(by omega), hrows, hSc, hP, hD, hS, (lv_sub hl [0, 1, 2, 3, 4, 5, 6, 7] rfl)⟩ ?_
  clear hl
  clear hP hD hS
  rintro ⟨q, s1, f1⟩ H locs ls hI ih_8
  obtain ⟨hc, hrw, hS1, hP, hD, hS, hl⟩ := hI
  have hR := q_ro hR0 hna hS
  refine lv_iload hx hb dX7_reachAlong_8 (lv_at hl 0 rfl) ?_
  refine lv_aload_n hx hb dX7_reachAlong_10 rfl (lv_at hl 4 rfl) ?_
  refine va_getN (host := "FuzzyFens") (D := D) (own := RX7) (ref := "FuzzyFens$Word") (ci := 7) (v := .int (nI (wl a))) (C := RX8) (T := TX8) (N := 3) hx hb hts iX7_reachAlong_X8 hown hK hR 3 rfl rfl 1 (by decide) (va_Nw.use rfl (hNw.1 ("FuzzyFens$Trie", 36, "FuzzyFens$Word", "length", "I") (List.mem_of_getElem? (i := 3) rfl))) (fun _ h9 => h9) rfl dX7_reachAlong_11 ?_
  refine q_icmp_gt (a := p9 + q + 1) (b := wl a) (tgt := 55) hx hb dX7_reachAlong_14 (by decide) (by omega) (by omega) (fun c_14 => ?_) (fun c_14 => ?_)
  · skip
    refine lv_iload hx hb dX7_reachAlong_55 (lv_at hl 1 rfl) ?_
    have eq9 : q = wl a - p9 := by omega
    exact W.iret (v := nI (rac k t a p9 q)) hx hb hr (fun t9 ht hW => ⟨⟨nI (rac k t a p9 q), (s1, f1), rfl, ⟨(by rw [← eq9]), (by rw [← eq9]; exact hS1), (fun i j hi hj => hrw i j (by omega) hj)⟩, by show va_P D vwCl _ t9.heap; rw [ht, ← eq9]; exact hP⟩, hS.F ht⟩) hS.2.2 dX7_reachAlong_57
  · skip
    refine lv_aload_n hx hb dX7_reachAlong_17 rfl (lv_at hl 3 rfl) ?_
    refine lv_iload hx hb dX7_reachAlong_18 (lv_at hl 0 rfl) ?_
    refine lv_aload_n hx hb dX7_reachAlong_20 rfl (lv_at hl 4 rfl) ?_
    refine lv_iload hx hb dX7_reachAlong_21 (lv_at hl 0 rfl) ?_
    refine lv_iconst (v := nI 1) hx hb dX7_reachAlong_23 (by decide) ?_
    refine q_isub (d := p9 + q) hx hb dX7_reachAlong_24 (by omega) ?_
    refine vp_callSi (W.runV (As := [.int (nI (p9 + q))]) (rest := [.int (nI (p9 + q + 1)), .ref g]) ⟨hx, hb, hml, hown, hts⟩ (c_X8_letterAt (l := l) (D := D) (w := w) (n := a) (p := p9 + q) (hg := hga) (hp := by omega)) (cwV 1 hts gX7_reachAlong_X8_letterAt rfl rfl rfl (by decide +kernel) ⟨Nat.le_of_ble_eq_true rfl, Nat.le_of_ble_eq_true rfl⟩) ⟨qP_blind, (va_recv hK hR (ci := 7) (q0 := 3) rfl rfl), (qP_of (hR.sub (ws' := [(w, .inr (7, [.long (lN a), .int (nI (wl a)), .long (lN (al a))]))]) [3] rfl) (hK.sub (tys' := []) [] rfl) hNw)⟩ rfl rfl hl.1 rfl (lv_room (Nat.le_of_ble_eq_true rfl)) dX7_reachAlong_25 ⟨Nat.le_of_ble_eq_true rfl, Nat.le_of_ble_eq_true rfl⟩) (fun r_1 hr_1 => ?_)
    subst hr_1
    refine lv_aload hx hb dX7_reachAlong_28 (lv_at hl 6 rfl) ?_
    have hF := va_free (wc := [(ce, .inl (cG, 121, .inl f1))]) hD hS hA [2] rfl
    refine va_callv (va_runV (As := [.int (nI (p9 + q + 1)), .int (nI (ltz a (p9 + q))), .ref o]) (rest := []) ⟨hx, hb, hml, hown, hts⟩ (c_X1_fillRow (l := l) (D := D) (g := g) (gr := gr) (ce := ce) (cG := cG) (f := f1) (o := o) (n := t) (R := lev (ltz a) (ltz t) (p9 + q)) (row := p9 + q + 1) (lt9 := ltz a (p9 + q)) (sz := H.size) (hnd := (q_nds hnd [2, 4, 5, 7] rfl rfl)) (hr1 := by omega) (hr2 := by omega) (hg := hg) (hRv := (fun j hj => by rw [show 11 * (p9 + q + 1) - 11 + j = 11 * (p9 + q) + j by omega]; exact hrw _ j (by omega) hj)) (hRb := fun j hj => by have := lev_le (ltz a) (ltz t) (p9 + q) j; omega) (hlt := ltz_32 _ _)) (cwV 3 hts gX7_reachAlong_X1_fillRow rfl rfl rfl (by decide +kernel) ⟨Nat.le_of_ble_eq_true rfl, Nat.le_of_ble_eq_true rfl⟩) ⟨qW_blind, (va_recv hK hR (ci := 1) (q0 := 1) rfl rfl), (qW_of (hR.sub (ws' := [(g, .inr (1, [.ref gr])), (gr, .inr (2, [.ref ce])), (o, .inr (7, [.long (lN t), .int (nI (wl t)), .long (lN (al t))]))]) [1, 2, 4] rfl) (hP.sub (ws' := [(ce, .inl (cG, 121, .inl f1))]) [2] rfl) (hK.sub (tys' := [(cG, .int)]) [1] rfl) hNw)⟩ rfl rfl hl.1 rfl (lv_room (Nat.le_of_ble_eq_true rfl)) dX7_reachAlong_30 ⟨Nat.le_of_ble_eq_true rfl, Nat.le_of_ble_eq_true rfl⟩) hS (fun q _ h => hF q h) hF (fun u_6 t_5 H_3 locs_4 ht hvm hr_2 hB hz1 hk1 hS => ?_)
    obtain ⟨f4, rfl⟩ : ∃ z, z = u_6 := ⟨_, rfl⟩
    replace hB : va_P D vwCl [(ce, .inl (cG, 121, .inl f4))] H_3 := by rw [← ht]; exact hB
    obtain ⟨hP, hD⟩ := q_join (wc := [(ce, .inl (cG, 121, .inl f1))]) (w1 := [(ce, .inl (cG, 121, .inl f4))]) (ws' := [(ns, .inr (3, [.ref na, .int (nI (List.length (ral k t a p9 Lst q)))])), (na, .inl (cJ, 401, .inr (.inl s1))), (ce, .inl (cG, 121, .inl f4))]) [2] hP hD rfl rfl hk1 hB rfl
    have hR := q_ro hR0 hna hS
    obtain ⟨hfr0, hfr1⟩ := hr_2
    refine lv_iload hx hb dX7_reachAlong_33 (lv_at hl 1 rfl) ?_
    refine lv_aload_n hx hb dX7_reachAlong_35 rfl (lv_at hl 2 rfl) ?_
    refine lv_aload_n hx hb dX7_reachAlong_36 rfl (lv_at hl 3 rfl) ?_
    refine lv_iload hx hb dX7_reachAlong_37 (lv_at hl 0 rfl) ?_
    refine lv_aload hx hb dX7_reachAlong_39 (lv_at hl 6 rfl) ?_
    refine lv_iload hx hb dX7_reachAlong_41 (lv_at hl 7 rfl) ?_
    have hF := va_free (wc := [(ns, .inr (3, [.ref na, .int (nI (List.length (ral k t a p9 Lst q)))])), (na, .inl (cJ, 401, .inr (.inl s1)))]) hD hS hA [0, 1] rfl
    refine va_calli (va_runV (As := [.ref g, .int (nI (p9 + q + 1)), .ref o, .int (nI k)]) (rest := [.int (nI (rac k t a p9 q))]) ⟨hx, hb, hml, hown, hts⟩ (c_X7_visit (l := l) (D := D) (tri := tri) (ns := ns) (na := na) (cJ := cJ) (fN := s1) (Lst := (ral k t a p9 Lst q)) (g := g) (gr := gr) (ce := ce) (cG := cG) (fc := f4) (o := o) (t := t) (L := lev (ltz a) (ltz t) (p9 + q + 1)) (row := p9 + q + 1) (k := k) (sz := H_3.size) (hnd := (q_nds hnd [0, 1, 3, 4, 5, 2, 7] rfl rfl)) (hSc := hS1) (hSb := (ral_bnd hwt hk a p9 hSb q)) (hSl := (by have := ral_len k t a p9 Lst q; omega)) (hg := hg) (hk := hk) (hr2 := by omega) (hL := hfr1) (hLb := (fun j hj => by have := lev_le (ltz a) (ltz t) (p9 + q + 1) j; omega))) (cwV 4 hts gX7_reachAlong_X7_visit rfl rfl rfl (by decide +kernel) ⟨Nat.le_of_ble_eq_true rfl, Nat.le_of_ble_eq_true rfl⟩) ⟨qW_blind, (va_recv hK hR (ci := 6) (q0 := 0) rfl rfl), (qW_of (show va_P D vwCl [(tri, .inr (6, [.ref ns])), (g, .inr (1, [.ref gr])), (gr, .inr (2, [.ref ce])), (ce, .inl (cG, 121, .inl f4)), (o, .inr (7, [.long (lN t), .int (nI (wl t)), .long (lN (al t))]))] _ from (va_P.app (hR.sub (ws' := [(tri, .inr (6, [.ref ns]))]) [0] rfl) (va_P.app (hR.sub (ws' := [(g, .inr (1, [.ref gr]))]) [1] rfl) (va_P.app (hR.sub (ws' := [(gr, .inr (2, [.ref ce]))]) [2] rfl) (va_P.app (hP.sub (ws' := [(ce, .inl (cG, 121, .inl f4))]) [2] rfl) (hR.sub (ws' := [(o, .inr (7, [.long (lN t), .int (nI (wl t)), .long (lN (al t))]))]) [4] rfl)))))) (hP.sub (ws' := [(ns, .inr (3, [.ref na, .int (nI (List.length (ral k t a p9 Lst q)))])), (na, .inl (cJ, 401, .inr (.inl s1)))]) [0, 1] rfl) (hK.sub (tys' := [(cJ, .long), (cG, .int)]) [0, 1] rfl) hNw)⟩ rfl rfl hl.1 rfl (lv_room (Nat.le_of_ble_eq_true rfl)) dX7_reachAlong_43 ⟨Nat.le_of_ble_eq_true rfl, Nat.le_of_ble_eq_true rfl⟩) hS (fun q _ h => hF q h) hF (fun r_7 u_11 t_10 H_8 locs_9 ht hvm hr_7 hB hz1 hk1 hS => ?_)
    obtain ⟨s2, rfl⟩ : ∃ z, z = u_11 := ⟨_, rfl⟩
    replace hB : va_P D vwCl [(ns, .inr (3, [.ref na, .int (nI (List.length (vis k t (lev (ltz a) (ltz t) (p9 + q + 1)) (ral k t a p9 Lst q))))])), (na, .inl (cJ, 401, .inr (.inl s2)))] H_8 := by rw [← ht]; exact hB
    obtain ⟨hP, hD⟩ := q_join (wc := [(ns, .inr (3, [.ref na, .int (nI (List.length (ral k t a p9 Lst q)))])), (na, .inl (cJ, 401, .inr (.inl s1)))]) (w1 := [(ns, .inr (3, [.ref na, .int (nI (List.length (vis k t (lev (ltz a) (ltz t) (p9 + q + 1)) (ral k t a p9 Lst q))))])), (na, .inl (cJ, 401, .inr (.inl s2)))]) (ws' := [(ns, .inr (3, [.ref na, .int (nI (List.length (vis k t (lev (ltz a) (ltz t) (p9 + q + 1)) (ral k t a p9 Lst q))))])), (na, .inl (cJ, 401, .inr (.inl s2))), (ce, .inl (cG, 121, .inl f4))]) [0, 1] hP hD rfl rfl hk1 hB rfl
    have hR := q_ro hR0 hna hS
    obtain ⟨rfl, hvis⟩ := hr_7
    refine q_iadd (d := rac k t a p9 q + vcn k t (lev (ltz a) (ltz t) (p9 + q + 1))) hx hb dX7_reachAlong_46 (by omega) ?_
    refine q_cvi (show (nI (rac k t a p9 q + vcn k t (lev (ltz a) (ltz t) (p9 + q + 1)))) = (nI (rac k t a p9 (q + 1))) from rfl) ?_
    refine lv_istore (lv' := [(6, .int (nI (rac k t a p9 (q + 1)))), (7, .int (nI (p9 + q + 1))), (0, .ref tri), (1, .ref g), (2, .ref w), (3, .int (nI p9)), (4, .ref o), (5, .int (nI k))]) hx hb dX7_reachAlong_47 hl (by decide) rfl (fun ls hl => ?_)
    refine lv_iinc (v := nI (p9 + q + 2)) (lv' := [(7, .int (nI (p9 + q + 2))), (6, .int (nI (rac k t a p9 (q + 1)))), (0, .ref tri), (1, .ref g), (2, .ref w), (3, .int (nI p9)), (4, .ref o), (5, .int (nI k))]) hx hb dX7_reachAlong_49 hl (k := 1) rfl (q_inc (k := 1) (by omega)) (by decide) rfl (fun ls hl => ?_)
    refine lv_goto (tgt := 8) hx hb dX7_reachAlong_52 (by decide) ?_
    exact ih_8 (q + 1, s2, f4) _ _ _ ⟨(by omega), (fun i j hi hj => by by_cases e : i ≤ p9 + q; (rw [hfr0 _ (by omega)]; exact hrw i j e hj); (rw [show i = p9 + q + 1 by omega]; exact hfr1 j hj)), hvis, hP, hD, hS, (lv_sub hl [0, 1, 2, 3, 4, 5, 6, 7] rfl)⟩ (by show wl a - p9 - (q + 1) < wl a - p9 - q; omega)

set_option maxRecDepth 20000 in
theorem iX7_reach_X0 : ∀ w ∈ wsX00, w ∈ wsX7_reach := by decide +kernel
set_option maxRecDepth 20000 in
theorem iX7_reach_X7 : ∀ w ∈ wsX70, w ∈ wsX7_reach := by decide +kernel
set_option maxHeartbeats 4000000 in
set_option maxRecDepth 100000 in
/-- Trie.reach -/
theorem c_X7_reach (l : Launch) (D : va_G) (sz : Nat) (tri : Nat) (ns : Nat) (na : Nat) (cJ : ClassId) (fN : Nat → Int64) (z : Int32) (g : Nat) (gr : Nat) (ce : Nat) (cG : ClassId) (fc : Nat → Int32) (sh : Nat) (ar : Nat) (cS : ClassId) (f : Nat → Option Nat) (m : Nat) (ki : Nat → Nat) (o : Nat) (t : Nat) (k : Nat) (ea : Nat → Nat) (wa : Nat → Nat) (pf : Nat → Option Nat) (cn : Nat → Nat) (dp : Nat → Nat) (oc : Nat → Nat) (ic : Nat → Int32) (lf : Nat → Int32) (pt : Nat → Int32) (wd : Nat → Nat) (n : Nat) (hnd : ([ns, na, ce] ++ ([tri, g, gr, sh, ar, o] ++ (rg ea n ++ rg wa n))).Nodup) (hm : m ≤ 40) (hf : ∀ j, j < m → f j = some (ea (ki j))) (hki : ∀ j, j < m → ki j < n) (hg : ∀ k, k < n → gw (wd k)) (hgt : gw t) (hk : k ≤ 3) : Met l yX7_reach wsX7_reach { frames := 5, cells := 0, slots := 0, locals := 120 } (va_Pc [.ref tri, .ref g, .ref sh, .ref o, .int (nI k)] (qW D sz ([(tri, .inr (6, [.ref ns])), (g, .inr (1, [.ref gr])), (gr, .inr (2, [.ref ce])), (sh, .inr (4, [.ref ar, .int (nI m)])), (ar, .inl (cS, 40, .inr (.inr (.inr (.inr f))))), (o, .inr (7, [.long (lN t), .int (nI (wl t)), .long (lN (al t))]))] ++ (EW ea wa pf cn dp oc ic lf pt n ++ WW wa wd n)) [(ns, .inr (3, [.ref na, .int z])), (na, .inl (cJ, 401, .inr (.inl fN))), (ce, .inl (cG, 121, .inl fc))] [(cJ, .long), (cG, .int), (cS, .object "FuzzyFens$Entry")])) (va_Qi (fun (rv : Int32) (uv : (Nat → Int64) × (Nat → Int32)) => rv = nI (ren k t wd ki m)) (fun (uv : (Nat → Int64) × (Nat → Int32)) (tv : State) => va_P D vwCl [(ns, .inr (3, [.ref na, .int (nI (List.length (rel k t wd ki m)))])), (na, .inl (cJ, 401, .inr (.inl uv.1))), (ce, .inl (cG, 121, .inl uv.2))] tv.heap) (va_A [(ns, .inr (3, [.ref na, .int z])), (na, .inl (cJ, 401, .inr (.inl fN))), (ce, .inl (cG, 121, .inl fc))] sz)) 0 0 (va_A [(ns, .inr (3, [.ref na, .int z])), (na, .inl (cJ, 401, .inr (.inl fN))), (ce, .inl (cG, 121, .inl fc))] sz) := by
  refine Met.ofW (cc := cX7_reach) (maxL := 8) (ret := (some .int)) (by decide) rfl ?_
  intro pM eM s mi9 argsM belowM methM cM sM B hml hv
  obtain ⟨rfl, hsz, hR0, hP, hK, hNw⟩ := hv
  have hx := B.exec
  have hb := B.bytes
  have hr := B.returns
  have hts := atoms_spec (ws := wsX7_reach) B.pre
  have hown : s.vm.findClass RX7 = some mi9.cls := findClass_of_methodNamed B.named
  have hlocks := B.notSynchronized
  subst hsz
  have hna := q_na (RW := [(ns, .inr (3, [.ref na, .int z])), (na, .inl (cJ, 401, .inr (.inl fN))), (ce, .inl (cG, 121, .inl fc))]) (RO := [(tri, .inr (6, [.ref ns])), (g, .inr (1, [.ref gr])), (gr, .inr (2, [.ref ce])), (sh, .inr (4, [.ref ar, .int (nI m)])), (ar, .inl (cS, 40, .inr (.inr (.inr (.inr f))))), (o, .inr (7, [.long (lN t), .int (nI (wl t)), .long (lN (al t))]))] ++ (EW ea wa pf cn dp oc ic lf pt n ++ WW wa wd n)) hnd rfl (by rw [List.map_append, List.map_append, EW_fst, WW_fst]; rfl) hR0
  have hD := q_D (RW := [(ns, .inr (3, [.ref na, .int z])), (na, .inl (cJ, 401, .inr (.inl fN))), (ce, .inl (cG, 121, .inl fc))]) (sz := s.heap.size) hnd rfl
  have hA : ∀ q : Nat, s.heap.size ≤ q → va_A [(ns, .inr (3, [.ref na, .int z])), (na, .inl (cJ, 401, .inr (.inl fN))), (ce, .inl (cG, 121, .inl fc))] s.heap.size q := fun q h => Or.inr h
  generalize hAe : va_A [(ns, .inr (3, [.ref na, .int z])), (na, .inl (cJ, 401, .inr (.inl fN))), (ce, .inl (cG, 121, .inl fc))] s.heap.size = A at hna hD hA ⊢
  have hS : va_S A s.heap s.heap [] := va_S.rf
  have hR := hR0
  have hP : va_P D vwCl [(ns, .inr (3, [.ref na, .int z])), (na, .inl (cJ, 401, .inr (.inl fN))), (ce, .inl (cG, 121, .inl fc))] s.heap := hP
  have hl := lv_entry ([.ref tri, .ref g, .ref sh, .ref o, .int (nI k)]) (n := 8) (Nat.le_of_ble_eq_true rfl)
  rw [lg_entry_eq]
  generalize (lg_sl ([.ref tri, .ref g, .ref sh, .ref o, .int (nI k)]) ++ List.replicate (8 - (lg_sl ([.ref tri, .ref g, .ref sh, .ref o, .int (nI k)])).length) Slot.unset).toArray = ls at hl ⊢
  have hl : lv_has ls 8 [(0, .ref tri), (1, .ref g), (2, .ref sh), (3, .ref o), (4, .int (nI k))] := hl
  have hwt := gw_wl hgt
  refine lv_aload_n hx hb dX7_reach_0 rfl (lv_at hl 0 rfl) ?_
  refine va_get (D := D) (own := RX7) (ref := "FuzzyFens$Trie") (ci := 6) (v := .ref ns) (C := RX7) (T := TX7) (N := 1) hx hb hts iX7_reach_X7 hown hK hR 0 rfl rfl 0 (by decide) (hts (.fieldLink RX7 14 "FuzzyFens$Trie" "packedRows" "LFuzzyFens$NumberSet;") (List.mem_of_getElem? (i := 1) rfl)) (fun _ h9 => h9) rfl dX7_reach_1 ?_
  have hF := va_free (wc := [(ns, .inr (3, [.ref na, .int z]))]) hD hS hA [0] rfl
  refine va_callv (va_runV (As := []) (rest := []) ⟨hx, hb, hml, hown, hts⟩ (c_X4_clear (l := l) (D := D) (ns := ns) (ar := na) (z := z) (sz := s.heap.size) (hnd := (q_nds (q_ndl hnd) [0] rfl rfl)) ) (cwV 0 hts gX7_reach_X4_clear rfl rfl rfl (by decide +kernel) ⟨Nat.le_of_ble_eq_true rfl, Nat.le_of_ble_eq_true rfl⟩) ⟨qW_blind, (va_recv hK hP (ci := 3) (q0 := 0) rfl rfl), (qW_of (q_Pof (fun _ h => absurd h List.not_mem_nil)) (hP.sub (ws' := [(ns, .inr (3, [.ref na, .int z]))]) [0] rfl) (hK.sub (tys' := []) [] rfl) hNw)⟩ rfl rfl hl.1 rfl (lv_room (Nat.le_of_ble_eq_true rfl)) dX7_reach_4 ⟨Nat.le_of_ble_eq_true rfl, Nat.le_of_ble_eq_true rfl⟩) hS (fun q _ h => hF q h) hF (fun u_5 t_4 H_2 locs_3 ht hvm hr_1 hB hz1 hk1 hS => ?_)
  replace hB : va_P D vwCl [(ns, .inr (3, [.ref na, .int (nI 0)]))] H_2 := by rw [← ht]; exact hB
  obtain ⟨hP, hD⟩ := q_join (wc := [(ns, .inr (3, [.ref na, .int z]))]) (w1 := [(ns, .inr (3, [.ref na, .int (nI 0)]))]) (ws' := [(ns, .inr (3, [.ref na, .int (nI 0)])), (na, .inl (cJ, 401, .inr (.inl fN))), (ce, .inl (cG, 121, .inl fc))]) [0] hP hD rfl rfl hk1 hB rfl
  have hR := q_ro hR0 hna hS
  refine lv_aload_n hx hb dX7_reach_7 rfl (lv_at hl 1 rfl) ?_
  refine lv_aload_n hx hb dX7_reach_8 rfl (lv_at hl 3 rfl) ?_
  have hF := va_free (wc := [(ce, .inl (cG, 121, .inl fc))]) hD hS hA [2] rfl
  refine va_callv (va_runV (As := [.ref o]) (rest := []) ⟨hx, hb, hml, hown, hts⟩ (c_X1_startRows (l := l) (D := D) (g := g) (gr := gr) (ce := ce) (cG := cG) (f := fc) (o := o) (n := t) (sz := H_2.size) (hnd := (q_nds (q_ndl hnd) [2, 4, 5, 8] rfl rfl)) (hg := hgt)) (cwV 1 hts gX7_reach_X1_startRows rfl rfl rfl (by decide +kernel) ⟨Nat.le_of_ble_eq_true rfl, Nat.le_of_ble_eq_true rfl⟩) ⟨qW_blind, (va_recv hK hR (ci := 1) (q0 := 1) rfl rfl), (qW_of (hR.sub (ws' := [(g, .inr (1, [.ref gr])), (gr, .inr (2, [.ref ce])), (o, .inr (7, [.long (lN t), .int (nI (wl t)), .long (lN (al t))]))]) [1, 2, 5] rfl) (hP.sub (ws' := [(ce, .inl (cG, 121, .inl fc))]) [2] rfl) (hK.sub (tys' := [(cG, .int)]) [1] rfl) hNw)⟩ rfl rfl hl.1 rfl (lv_room (Nat.le_of_ble_eq_true rfl)) dX7_reach_9 ⟨Nat.le_of_ble_eq_true rfl, Nat.le_of_ble_eq_true rfl⟩) hS (fun q _ h => hF q h) hF (fun u_10 t_9 H_7 locs_8 ht hvm hr_6 hB hz1 hk1 hS => ?_)
  obtain ⟨f5, rfl⟩ : ∃ z, z = u_10 := ⟨_, rfl⟩
  replace hB : va_P D vwCl [(ce, .inl (cG, 121, .inl f5))] H_7 := by rw [← ht]; exact hB
  obtain ⟨hP, hD⟩ := q_join (wc := [(ce, .inl (cG, 121, .inl fc))]) (w1 := [(ce, .inl (cG, 121, .inl f5))]) (ws' := [(ns, .inr (3, [.ref na, .int (nI 0)])), (na, .inl (cJ, 401, .inr (.inl fN))), (ce, .inl (cG, 121, .inl f5))]) [2] hP hD rfl rfl hk1 hB rfl
  have hR := q_ro hR0 hna hS
  have hst := hr_6
  refine lv_aload_n hx hb dX7_reach_12 rfl (lv_at hl 0 rfl) ?_
  refine lv_aload_n hx hb dX7_reach_13 rfl (lv_at hl 1 rfl) ?_
  refine lv_iconst (v := nI 0) hx hb dX7_reach_14 (by decide) ?_
  refine lv_aload_n hx hb dX7_reach_15 rfl (lv_at hl 3 rfl) ?_
  refine lv_iload hx hb dX7_reach_16 (lv_at hl 4 rfl) ?_
  have hF := va_free (wc := [(ns, .inr (3, [.ref na, .int (nI 0)])), (na, .inl (cJ, 401, .inr (.inl fN)))]) hD hS hA [0, 1] rfl
  refine va_calli (va_runV (As := [.ref g, .int (nI 0), .ref o, .int (nI k)]) (rest := []) ⟨hx, hb, hml, hown, hts⟩ (c_X7_visit (l := l) (D := D) (tri := tri) (ns := ns) (na := na) (cJ := cJ) (fN := fN) (Lst := ([] : List Nat)) (g := g) (gr := gr) (ce := ce) (cG := cG) (fc := f5) (o := o) (t := t) (L := (fun j => j)) (row := 0) (k := k) (sz := H_7.size) (hnd := (q_nds (q_ndl hnd) [0, 1, 3, 4, 5, 2, 8] rfl rfl)) (hSc := (fun j hj => absurd hj (Nat.not_lt_zero _))) (hSb := (fun j hj => absurd hj (Nat.not_lt_zero _))) (hSl := (by decide)) (hg := hgt) (hk := hk) (hr2 := by omega) (hL := (fun j hj => by rw [show 11 * 0 + j = j by omega]; exact hst j hj)) (hLb := (fun j hj => by show j ≤ 30; omega))) (cwV 4 hts gX7_reach_X7_visit rfl rfl rfl (by decide +kernel) ⟨Nat.le_of_ble_eq_true rfl, Nat.le_of_ble_eq_true rfl⟩) ⟨qW_blind, (va_recv hK hR (ci := 6) (q0 := 0) rfl rfl), (qW_of (show va_P D vwCl [(tri, .inr (6, [.ref ns])), (g, .inr (1, [.ref gr])), (gr, .inr (2, [.ref ce])), (ce, .inl (cG, 121, .inl f5)), (o, .inr (7, [.long (lN t), .int (nI (wl t)), .long (lN (al t))]))] _ from (va_P.app (hR.sub (ws' := [(tri, .inr (6, [.ref ns]))]) [0] rfl) (va_P.app (hR.sub (ws' := [(g, .inr (1, [.ref gr]))]) [1] rfl) (va_P.app (hR.sub (ws' := [(gr, .inr (2, [.ref ce]))]) [2] rfl) (va_P.app (hP.sub (ws' := [(ce, .inl (cG, 121, .inl f5))]) [2] rfl) (hR.sub (ws' := [(o, .inr (7, [.long (lN t), .int (nI (wl t)), .long (lN (al t))]))]) [5] rfl)))))) (hP.sub (ws' := [(ns, .inr (3, [.ref na, .int (nI 0)])), (na, .inl (cJ, 401, .inr (.inl fN)))]) [0, 1] rfl) (hK.sub (tys' := [(cJ, .long), (cG, .int)]) [0, 1] rfl) hNw)⟩ rfl rfl hl.1 rfl (lv_room (Nat.le_of_ble_eq_true rfl)) dX7_reach_18 ⟨Nat.le_of_ble_eq_true rfl, Nat.le_of_ble_eq_true rfl⟩) hS (fun q _ h => hF q h) hF (fun r_11 u_15 t_14 H_12 locs_13 ht hvm hr_11 hB hz1 hk1 hS => ?_)
  obtain ⟨s0, rfl⟩ : ∃ z, z = u_15 := ⟨_, rfl⟩
  replace hB : va_P D vwCl [(ns, .inr (3, [.ref na, .int (nI (List.length (vis k t (fun j => j) ([] : List Nat))))])), (na, .inl (cJ, 401, .inr (.inl s0)))] H_12 := by rw [← ht]; exact hB
  obtain ⟨hP, hD⟩ := q_join (wc := [(ns, .inr (3, [.ref na, .int (nI 0)])), (na, .inl (cJ, 401, .inr (.inl fN)))]) (w1 := [(ns, .inr (3, [.ref na, .int (nI (List.length (vis k t (fun j => j) ([] : List Nat))))])), (na, .inl (cJ, 401, .inr (.inl s0)))]) (ws' := [(ns, .inr (3, [.ref na, .int (nI (List.length (vis k t (fun j => j) ([] : List Nat))))])), (na, .inl (cJ, 401, .inr (.inl s0))), (ce, .inl (cG, 121, .inl f5))]) [0, 1] hP hD rfl rfl hk1 hB rfl
  have hR := q_ro hR0 hna hS
  obtain ⟨rfl, hv0⟩ := hr_11
  refine lv_istore (lv' := [(5, .int (nI (vcn k t (fun j => j)))), (0, .ref tri), (1, .ref g), (2, .ref sh), (3, .ref o), (4, .int (nI k))]) hx hb dX7_reach_21 hl (by decide) rfl (fun ls hl => ?_)
  refine lv_iconst (v := nI 0) hx hb dX7_reach_23 (by decide) ?_
  refine lv_istore (lv' := [(6, .int (nI 0)), (5, .int (nI (vcn k t (fun j => j)))), (0, .ref tri), (1, .ref g), (2, .ref sh), (3, .ref o), (4, .int (nI k))]) hx hb dX7_reach_24 hl (by decide) rfl (fun ls hl => ?_)
  refine q_loop (fun (x : (Nat) × (Nat → Int64) × (Nat → Int32)) (H : Heap) (locs : List Loc) (ls : Array Slot) => match x with | (i, s1, f1) => (i ≤ m) ∧ (∀ d j, (i = 0 → d = 0) → d ≤ wl (wd (ki (i - 1))) → j ≤ wl t → f1 (11 * d + j) = nI (lev (ltz (wd (ki (i - 1)))) (ltz t) d j)) ∧ (∀ j, j < List.length (rel k t wd ki i) → s1 j = lN (List.getD (rel k t wd ki i) j 0)) ∧ va_P D vwCl [(ns, .inr (3, [.ref na, .int (nI (List.length (rel k t wd ki i)))])), (na, .inl (cJ, 401, .inr (.inl s1))), (ce, .inl (cG, 121, .inl f1))] H ∧ va_D A [(ns, .inr (3, [.ref na, .int (nI (List.length (rel k t wd ki i)))])), (na, .inl (cJ, 401, .inr (.inl s1))), (ce, .inl (cG, 121, .inl f1))] ∧ va_S A s.heap H locs ∧ lv_has ls 8 [(6, .int (nI i)), (5, .int (nI (ren k t wd ki i))), (0, .ref tri), (1, .ref g), (2, .ref sh), (3, .ref o), (4, .int (nI k))]) (fun (x : (Nat) × (Nat → Int64) × (Nat → Int32)) => match x with | (i, s1, f1) => m - i) (0, s0, f5) ⟨(by omega), (fun d j h0 _ hj => by rw [h0 rfl, show 11 * 0 + j = j by omega, lev_0]; exact hst j hj), hv0, hP, hD, hS, (lv_sub hl [0, 1, 2, 3, 4, 5, 6] rfl)⟩ ?_
  clear hl
  clear hP hD hS
  rintro ⟨i, s1, f1⟩ H locs ls hI ih_26
  obtain ⟨hi, hrw, hS1, hP, hD, hS, hl⟩ := hI
  have hR := q_ro hR0 hna hS
  refine lv_iload hx hb dX7_reach_26 (lv_at hl 0 rfl) ?_
  refine lv_aload_n hx hb dX7_reach_28 rfl (lv_at hl 4 rfl) ?_
  refine vp_callSi (W.runV (As := []) (rest := [.int (nI i)]) ⟨hx, hb, hml, hown, hts⟩ (c_X5_size (l := l) (D := D) (sh := sh) (ar := ar) (m := m) ) (cwV 0 hts gX7_reach_X5_size rfl rfl rfl (by decide +kernel) ⟨Nat.le_of_ble_eq_true rfl, Nat.le_of_ble_eq_true rfl⟩) ⟨qP_blind, (va_recv hK hR (ci := 4) (q0 := 3) rfl rfl), (qP_of (hR.sub (ws' := [(sh, .inr (4, [.ref ar, .int (nI m)]))]) [3] rfl) (hK.sub (tys' := []) [] rfl) hNw)⟩ rfl rfl hl.1 rfl (lv_room (Nat.le_of_ble_eq_true rfl)) dX7_reach_29 ⟨Nat.le_of_ble_eq_true rfl, Nat.le_of_ble_eq_true rfl⟩) (fun r_16 hr_16 => ?_)
  subst hr_16
  refine q_icmp_ge (a := i) (b := m) (tgt := 78) hx hb dX7_reach_32 (by decide) (by omega) (by omega) (fun c_32 => ?_) (fun c_32 => ?_)
  · skip
    refine lv_iload hx hb dX7_reach_78 (lv_at hl 1 rfl) ?_
    have em : i = m := by omega
    exact W.iret (v := nI (ren k t wd ki i)) hx hb hr (fun t9 ht hW => ⟨⟨nI (ren k t wd ki i), (s1, f1), rfl, (by rw [em]), by show va_P D vwCl _ t9.heap; rw [ht, ← em]; exact hP⟩, hS.F ht⟩) hS.2.2 dX7_reach_80
  · skip
    refine lv_aload_n hx hb dX7_reach_35 rfl (lv_at hl 4 rfl) ?_
    refine lv_iload hx hb dX7_reach_36 (lv_at hl 0 rfl) ?_
    refine va_csq (W.runV (As := [.int (nI i)]) (rest := []) ⟨hx, hb, hml, hown, hts⟩ (c_X5_at (l := l) (D := D) (sh := sh) (ar := ar) (cS := cS) (f := f) (m := m) (i := i) (hi := by omega) (hm := hm)) (cwV 1 hts gX7_reach_X5_at rfl rfl rfl (by decide +kernel) ⟨Nat.le_of_ble_eq_true rfl, Nat.le_of_ble_eq_true rfl⟩) ⟨qP_blind, (va_recv hK hR (ci := 4) (q0 := 3) rfl rfl), (qP_of (hR.sub (ws' := [(sh, .inr (4, [.ref ar, .int (nI m)])), (ar, .inl (cS, 40, .inr (.inr (.inr (.inr f)))))]) [3, 4] rfl) (hK.sub (tys' := [(cS, .object "FuzzyFens$Entry")]) [2] rfl) hNw)⟩ rfl rfl hl.1 rfl (lv_room (Nat.le_of_ble_eq_true rfl)) dX7_reach_38 ⟨Nat.le_of_ble_eq_true rfl, Nat.le_of_ble_eq_true rfl⟩) (fun r_17 hr_17 => ?_)
    subst hr_17
    have e9 : f i = some (ea (ki i)) := hf _ (by omega)
    have hk9 := hki i (by omega)
    refine q_cvv (show va_rf (f i) = .ref (ea (ki i)) from (by rw [e9]; rfl)) ?_
    refine lv_astore (lv' := [(7, .ref (ea (ki i))), (6, .int (nI i)), (5, .int (nI (ren k t wd ki i))), (0, .ref tri), (1, .ref g), (2, .ref sh), (3, .ref o), (4, .int (nI k))]) hx hb dX7_reach_41 hl (by decide) rfl (fun ls hl => ?_)
    refine lv_aload hx hb dX7_reach_43 (lv_at hl 0 rfl) ?_
    refine lv_ifnull hx hb dX7_reach_45 ?_
    refine lv_iload hx hb dX7_reach_48 (lv_at hl 2 rfl) ?_
    refine lv_aload_n hx hb dX7_reach_50 rfl (lv_at hl 3 rfl) ?_
    refine lv_aload_n hx hb dX7_reach_51 rfl (lv_at hl 4 rfl) ?_
    refine lv_aload hx hb dX7_reach_52 (lv_at hl 0 rfl) ?_
    refine va_getN (host := "FuzzyFens") (D := D) (own := RX7) (ref := "FuzzyFens$Entry") (ci := 0) (v := .ref (wa (ki i))) (C := RX0) (T := TX0) (N := 8) hx hb hts iX7_reach_X0 hown hK (E_at hR (ki i) (by omega)) 0 rfl rfl 0 (by decide) (va_Nw.use rfl (hNw.1 ("FuzzyFens$Trie", 30, "FuzzyFens$Entry", "word", "LFuzzyFens$Word;") (List.mem_of_getElem? (i := 6) rfl))) (fun _ h9 => h9) rfl dX7_reach_54 ?_
    refine lv_aload_n hx hb dX7_reach_57 rfl (lv_at hl 5 rfl) ?_
    refine lv_iload hx hb dX7_reach_58 (lv_at hl 1 rfl) ?_
    refine vp_callSi (W.runS (As := [.ref sh, .int (nI i)]) (rest := [.ref (wa (ki i)), .ref g, .ref tri, .int (nI (ren k t wd ki i))]) ⟨hx, hb, hml, hown, hts⟩ (c_X7_lettersPassed (l := l) (D := D) (sh := sh) (ar := ar) (cS := cS) (f := f) (m := m) (ki := ki) (i := i) (ea := ea) (wa := wa) (pf := pf) (cn := cn) (dp := dp) (oc := oc) (ic := ic) (lf := lf) (pt := pt) (wd := wd) (n := n) (hm := hm) (hf := hf) (hki := hki) (hg := hg) (hi := by omega)) (va_cwS 2 hts gX7_reach_X7_lettersPassed rfl rfl rfl (by decide +kernel) ⟨Nat.le_of_ble_eq_true rfl, Nat.le_of_ble_eq_true rfl⟩) ⟨qP_blind, (qP_of (va_P.app (hR.sub (ws' := [(sh, .inr (4, [.ref ar, .int (nI m)])), (ar, .inl (cS, 40, .inr (.inr (.inr (.inr f)))))]) [3, 4] rfl) (q_right hR)) (hK.sub (tys' := [(cS, .object "FuzzyFens$Entry")]) [2] rfl) hNw)⟩ rfl rfl hl.1 rfl (lv_room (Nat.le_of_ble_eq_true rfl)) dX7_reach_60 ⟨Nat.le_of_ble_eq_true rfl, Nat.le_of_ble_eq_true rfl⟩) (fun r_18 hr_18 => ?_)
    subst hr_18
    refine lv_aload_n hx hb dX7_reach_63 rfl (lv_at hl 6 rfl) ?_
    refine lv_iload hx hb dX7_reach_64 (lv_at hl 7 rfl) ?_
    have hF := va_free (wc := [(ns, .inr (3, [.ref na, .int (nI (List.length (rel k t wd ki i)))])), (na, .inl (cJ, 401, .inr (.inl s1))), (ce, .inl (cG, 121, .inl f1))]) hD hS hA [0, 1, 2] rfl
    refine va_calli (va_runV (As := [.ref g, .ref (wa (ki i)), .int (nI (lpa wd ki i)), .ref o, .int (nI k)]) (rest := [.int (nI (ren k t wd ki i))]) ⟨hx, hb, hml, hown, hts⟩ (c_X7_reachAlong (l := l) (D := D) (tri := tri) (ns := ns) (na := na) (cJ := cJ) (fN := s1) (Lst := (rel k t wd ki i)) (g := g) (gr := gr) (ce := ce) (cG := cG) (fc := f1) (w := wa (ki i)) (a := wd (ki i)) (p9 := lpa wd ki i) (o := o) (t := t) (k := k) (sz := H.size) (hnd := (q_ndp hnd [(0, ns), (1, na), (2, ce), (3, tri), (4, g), (5, gr), (9 + n + (ki i), wa (ki i)), (8, o)] (List.forall_mem_cons.mpr ⟨rfl, (List.forall_mem_cons.mpr ⟨rfl, (List.forall_mem_cons.mpr ⟨rfl, (List.forall_mem_cons.mpr ⟨rfl, (List.forall_mem_cons.mpr ⟨rfl, (List.forall_mem_cons.mpr ⟨rfl, (List.forall_mem_cons.mpr ⟨(wa_ix 9 rfl (ki i) (by omega)), (List.forall_mem_cons.mpr ⟨rfl, (fun _ h => absurd h List.not_mem_nil)⟩)⟩)⟩)⟩)⟩)⟩)⟩)⟩) (by simp only [List.map_cons, List.map_nil, List.nodup_cons, List.mem_cons, List.not_mem_nil, or_false, not_or, List.nodup_nil, and_true, not_false_eq_true]; omega) rfl)) (hSc := hS1) (hSb := (rel_bnd hwt hk wd ki i)) (hSl := (by have := rel_len (k := k) (t := t) (m := i) (fun j hj => gw_wl (hg _ (hki j (by omega)))); omega)) (hga := (hg _ hk9)) (hg := hgt) (hk := hk) (hp := (lpa_le wd ki i)) (hrows := (fun d j hd hj => by rcases Nat.eq_zero_or_pos i with e | e; (have e2 : d = 0 := (by rw [e] at hd; exact Nat.le_zero.mp hd); have := hrw d j (fun _ => e2) (by omega) hj; rw [e2, lev_0] at this; rw [e2, lev_0]; exact this); (rw [← lpa_rows e hd]; exact hrw d j (fun h9 => by omega) (Nat.le_trans hd (lpa_le2 e (hg _ hk9))) hj)))) (cwV 5 hts gX7_reach_X7_reachAlong rfl rfl rfl (by decide +kernel) ⟨Nat.le_of_ble_eq_true rfl, Nat.le_of_ble_eq_true rfl⟩) ⟨qW_blind, (va_recv hK hR (ci := 6) (q0 := 0) rfl rfl), (qW_of (show va_P D vwCl [(tri, .inr (6, [.ref ns])), (g, .inr (1, [.ref gr])), (gr, .inr (2, [.ref ce])), (wa (ki i), .inr (7, [.long (lN (wd (ki i))), .int (nI (wl (wd (ki i)))), .long (lN (al (wd (ki i))))])), (o, .inr (7, [.long (lN t), .int (nI (wl t)), .long (lN (al t))]))] _ from (va_P.app (hR.sub (ws' := [(tri, .inr (6, [.ref ns]))]) [0] rfl) (va_P.app (hR.sub (ws' := [(g, .inr (1, [.ref gr]))]) [1] rfl) (va_P.app (hR.sub (ws' := [(gr, .inr (2, [.ref ce]))]) [2] rfl) (va_P.app ((W_at hR (ki i) (by omega))) (hR.sub (ws' := [(o, .inr (7, [.long (lN t), .int (nI (wl t)), .long (lN (al t))]))]) [5] rfl)))))) (hP.sub (ws' := [(ns, .inr (3, [.ref na, .int (nI (List.length (rel k t wd ki i)))])), (na, .inl (cJ, 401, .inr (.inl s1))), (ce, .inl (cG, 121, .inl f1))]) [0, 1, 2] rfl) (hK.sub (tys' := [(cJ, .long), (cG, .int)]) [0, 1] rfl) hNw)⟩ rfl rfl hl.1 rfl (lv_room (Nat.le_of_ble_eq_true rfl)) dX7_reach_66 ⟨Nat.le_of_ble_eq_true rfl, Nat.le_of_ble_eq_true rfl⟩) hS (fun q _ h => hF q h) hF (fun r_19 u_23 t_22 H_20 locs_21 ht hvm hr_19 hB hz1 hk1 hS => ?_)
    obtain ⟨s2, f4⟩ := u_23
    dsimp only at hr_19 hB
    replace hB : va_P D vwCl [(ns, .inr (3, [.ref na, .int (nI (List.length (ral k t (wd (ki i)) (lpa wd ki i) (rel k t wd ki i) (wl (wd (ki i)) - (lpa wd ki i)))))])), (na, .inl (cJ, 401, .inr (.inl s2))), (ce, .inl (cG, 121, .inl f4))] H_20 := by rw [← ht]; exact hB
    obtain ⟨hP, hD⟩ := q_join (wc := [(ns, .inr (3, [.ref na, .int (nI (List.length (rel k t wd ki i)))])), (na, .inl (cJ, 401, .inr (.inl s1))), (ce, .inl (cG, 121, .inl f1))]) (w1 := [(ns, .inr (3, [.ref na, .int (nI (List.length (ral k t (wd (ki i)) (lpa wd ki i) (rel k t wd ki i) (wl (wd (ki i)) - (lpa wd ki i)))))])), (na, .inl (cJ, 401, .inr (.inl s2))), (ce, .inl (cG, 121, .inl f4))]) (ws' := [(ns, .inr (3, [.ref na, .int (nI (List.length (ral k t (wd (ki i)) (lpa wd ki i) (rel k t wd ki i) (wl (wd (ki i)) - (lpa wd ki i)))))])), (na, .inl (cJ, 401, .inr (.inl s2))), (ce, .inl (cG, 121, .inl f4))]) [0, 1, 2] hP hD rfl rfl hk1 hB rfl
    have hR := q_ro hR0 hna hS
    obtain ⟨rfl, hra0, hra1⟩ := hr_19
    refine q_iadd (d := ren k t wd ki i + rac k t (wd (ki i)) (lpa wd ki i) (wl (wd (ki i)) - (lpa wd ki i))) hx hb dX7_reach_69 (by omega) ?_
    refine q_cvi (show (nI (ren k t wd ki i + rac k t (wd (ki i)) (lpa wd ki i) (wl (wd (ki i)) - (lpa wd ki i)))) = (nI (ren k t wd ki (i + 1))) from rfl) ?_
    refine lv_istore (lv' := [(5, .int (nI (ren k t wd ki (i + 1)))), (7, .ref (ea (ki i))), (6, .int (nI i)), (0, .ref tri), (1, .ref g), (2, .ref sh), (3, .ref o), (4, .int (nI k))]) hx hb dX7_reach_70 hl (by decide) rfl (fun ls hl => ?_)
    refine lv_iinc (v := nI (i + 1)) (lv' := [(6, .int (nI (i + 1))), (5, .int (nI (ren k t wd ki (i + 1)))), (7, .ref (ea (ki i))), (0, .ref tri), (1, .ref g), (2, .ref sh), (3, .ref o), (4, .int (nI k))]) hx hb dX7_reach_72 hl (k := 2) rfl (q_inc (k := 1) (by omega)) (by decide) rfl (fun ls hl => ?_)
    refine lv_goto (tgt := 26) hx hb dX7_reach_75 (by decide) ?_
    exact ih_26 (i + 1, s2, f4) _ _ _ ⟨(by omega), (fun d j _ hd hj => hra1 d j hd hj), hra0, hP, hD, hS, (lv_sub hl [0, 1, 3, 4, 5, 6, 7] rfl)⟩ (by show m - (i + 1) < m - i; omega)
