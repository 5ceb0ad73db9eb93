/-! sets of numbers -/
/-- a number put into a list, if it isn't there -/
def ins (L : List Nat) (v : Nat) : List Nat := if v ∈ L then L else L ++ [v]
theorem q_mem {L : List Nat} {v : Nat} : v ∈ L ↔ ∃ j, j < List.length L ∧ List.getD L j 0 = v := by
  constructor
  · intro h
    obtain ⟨j, hj, e⟩ := List.mem_iff_getElem.mp h
    exact ⟨j, hj, by rw [List.getD_eq_getElem?_getD, List.getElem?_eq_getElem hj, e]; rfl⟩
  · rintro ⟨j, hj, e⟩
    rw [List.getD_eq_getElem?_getD, List.getElem?_eq_getElem hj] at e
    exact e ▸ List.getElem_mem hj
theorem ins_len (L : List Nat) (v : Nat) : List.length (ins L v) ≤ List.length L + 1 := by
  unfold ins; split
  · omega
  · rw [List.length_append]; exact Nat.le_refl _
theorem getD_app {L : List Nat} {v j : Nat} (h : j < List.length L) : List.getD (L ++ [v]) j 0 = List.getD L j 0 := by
  rw [List.getD_eq_getElem?_getD, List.getD_eq_getElem?_getD, List.getElem?_append_left h]
theorem getD_last {L : List Nat} {v : Nat} : List.getD (L ++ [v]) (List.length L) 0 = v := by
  rw [List.getD_eq_getElem?_getD, List.getElem?_concat_length]; rfl
theorem ins_bnd {L : List Nat} {v b : Nat} (h : ∀ j, j < List.length L → List.getD L j 0 < b) (hv : v < b) : ∀ j, j < List.length (ins L v) → List.getD (ins L v) j 0 < b := by
  unfold ins; split
  · exact h
  · intro j hj
    rw [List.length_append] at hj
    have hj : j < List.length L + 1 := hj
    by_cases e : j = List.length L
    · rw [e, getD_last]; exact hv
    · rw [getD_app (by omega)]; exact h j (by omega)

set_option maxRecDepth 20000 in
theorem iX4_size_X4 : ∀ w ∈ wsX40, w ∈ wsX4_size := by decide +kernel
set_option maxHeartbeats 4000000 in
set_option maxRecDepth 100000 in
/-- NumberSet.size -/
theorem c_X4_size (l : Launch) (D : va_G) (ns : Nat) (ar : Nat) (k : Nat)  : Met l yX4_size wsX4_size { frames := 0, cells := 0, slots := 0, locals := 0 } (va_Pc [.ref ns] (qP D ([(ns, .inr (3, [.ref ar, .int (nI k)]))]) [])) (vp_Si (fun rv : Int32 => rv = nI k)) 0 0 (fun _ => False) := by
  refine Met.ofW (cc := cX4_size) (maxL := 1) (ret := (some .int)) (by decide) rfl ?_
  intro pM eM s mi9 argsM belowM methM cM sM B hml hv
  obtain ⟨rfl, hR, hK, hNw⟩ := hv
  have hx := B.exec
  have hb := B.bytes
  have hr := B.returns
  have hts := atoms_spec (ws := wsX4_size) B.pre
  have hown : s.vm.findClass RX4 = some mi9.cls := findClass_of_methodNamed B.named
  have hlocks := B.notSynchronized
  have hS : va_S (fun _ => False) s.heap s.heap [] := va_S.rf
  have hR : va_P D vwCl ([(ns, .inr (3, [.ref ar, .int (nI k)]))]) s.heap := hR
  have hl := lv_entry ([.ref ns]) (n := 1) (Nat.le_of_ble_eq_true rfl)
  rw [lg_entry_eq]
  generalize (lg_sl ([.ref ns]) ++ List.replicate (1 - (lg_sl ([.ref ns])).length) Slot.unset).toArray = ls at hl ⊢
  have hl : lv_has ls 1 [(0, .ref ns)] := hl
  refine lv_aload_n hx hb dX4_size_0 rfl (lv_at hl 0 rfl) ?_
  refine va_get (D := D) (own := RX4) (ref := "FuzzyFens$NumberSet") (ci := 3) (v := .int (nI k)) (C := RX4) (T := TX4) (N := 2) hx hb hts iX4_size_X4 hown hK hR 0 rfl rfl 1 (by decide) (hts (.fieldLink RX4 13 "FuzzyFens$NumberSet" "size" "I") (List.mem_of_getElem? (i := 1) rfl)) (fun _ h9 => h9) rfl dX4_size_1 ?_
  exact W.iret (v := nI k) hx hb hr (fun t9 ht _ => ⟨nI k, rfl, rfl, ht⟩) (fun _ h => absurd h List.not_mem_nil) dX4_size_4

set_option maxRecDepth 20000 in
theorem iX4_clear_X4 : ∀ w ∈ wsX40, w ∈ wsX4_clear := by decide +kernel
set_option maxHeartbeats 4000000 in
set_option maxRecDepth 100000 in
/-- NumberSet.clear -/
theorem c_X4_clear (l : Launch) (D : va_G) (sz : Nat) (ns : Nat) (ar : Nat) (z : Int32) (hnd : ([ns] ++ []).Nodup)  : Met l yX4_clear wsX4_clear { frames := 0, cells := 0, slots := 0, locals := 0 } (va_Pc [.ref ns] (qW D sz ([]) [(ns, .inr (3, [.ref ar, .int z]))] [])) (va_Qv (fun (uv : Unit) => True) (fun (uv : Unit) (tv : State) => va_P D vwCl [(ns, .inr (3, [.ref ar, .int (nI 0)]))] tv.heap) (va_A [(ns, .inr (3, [.ref ar, .int z]))] sz)) 0 0 (va_A [(ns, .inr (3, [.ref ar, .int z]))] sz) := by
  refine Met.ofW (cc := cX4_clear) (maxL := 1) (ret := none) (by decide) rfl ?_
  intro pM eM s mi9 argsM belowM methM cM sM B hml hv
  obtain ⟨rfl, hsz, hR0, hP, hK, hNw⟩ := hv
  have hx := B.exec
  have hb := B.bytes
  have hr := B.returns
  have hts := atoms_spec (ws := wsX4_clear) B.pre
  have hown : s.vm.findClass RX4 = some mi9.cls := findClass_of_methodNamed B.named
  have hlocks := B.notSynchronized
  subst hsz
  have hna := q_na (RW := [(ns, .inr (3, [.ref ar, .int z]))]) (RO := []) hnd rfl rfl hR0
  have hD := q_D (RW := [(ns, .inr (3, [.ref ar, .int z]))]) (sz := s.heap.size) hnd rfl
  have hA : ∀ q : Nat, s.heap.size ≤ q → va_A [(ns, .inr (3, [.ref ar, .int z]))] s.heap.size q := fun q h => Or.inr h
  generalize hAe : va_A [(ns, .inr (3, [.ref ar, .int z]))] s.heap.size = A at hna hD hA ⊢
  have hS : va_S A s.heap s.heap [] := va_S.rf
  have hR := hR0
  have hP : va_P D vwCl [(ns, .inr (3, [.ref ar, .int z]))] s.heap := hP
  have hl := lv_entry ([.ref ns]) (n := 1) (Nat.le_of_ble_eq_true rfl)
  rw [lg_entry_eq]
  generalize (lg_sl ([.ref ns]) ++ List.replicate (1 - (lg_sl ([.ref ns])).length) Slot.unset).toArray = ls at hl ⊢
  have hl : lv_has ls 1 [(0, .ref ns)] := hl
  refine lv_aload_n hx hb dX4_clear_0 rfl (lv_at hl 0 rfl) ?_
  refine lv_iconst (v := nI 0) hx hb dX4_clear_1 (by decide) ?_
  refine va_put (D := D) (ci := 3) (v := .int (nI 0)) (ty := .int) (C := RX4) (T := TX4) (N := 2) hx hb hts iX4_clear_X4 tyX4 tyX4_ok nmX4 hown hK hP hD hS 0 rfl rfl 1 (by decide) (hts (.fieldLink RX4 13 "FuzzyFens$NumberSet" "size" "I") (List.mem_of_getElem? (i := 1) rfl)) (fun _ h9 => h9) rfl (by decide +kernel) rfl rfl (Nat.le_of_ble_eq_true rfl) dX4_clear_2 (fun H_1 locs_2 hP hD hS => ?_)
  have hP : va_P D vwCl [(ns, .inr (3, [.ref ar, .int (nI 0)]))] H_1 := hP
  have hD : va_D A [(ns, .inr (3, [.ref ar, .int (nI 0)]))] := hD
  have hR := q_ro hR0 hna hS
  exact W.vret hx hb hr (fun t9 ht hW => ⟨⟨(), rfl, trivial, by show va_P D vwCl _ t9.heap; rw [ht]; exact hP⟩, hS.F ht⟩) hS.2.2 dX4_clear_5

set_option maxRecDepth 20000 in
theorem iX4_holds_X4 : ∀ w ∈ wsX40, w ∈ wsX4_holds := by decide +kernel
set_option maxHeartbeats 4000000 in
set_option maxRecDepth 100000 in
/-- NumberSet.holds -/
theorem c_X4_holds (l : Launch) (D : va_G) (ns : Nat) (ar : Nat) (cJ : ClassId) (N : Nat) (f : Nat → Int64) (L : List Nat) (v : Nat) (hL : ∀ j, j < List.length L → f j = lN (List.getD L j 0)) (hLb : ∀ j, j < List.length L → List.getD L j 0 < 2 ^ 63) (hN : List.length L < N) (hN2 : N < 2 ^ 31) (hv : v < 2 ^ 63) : Met l yX4_holds wsX4_holds { frames := 0, cells := 0, slots := 0, locals := 0 } (va_Pc [.ref ns, .long (lN v)] (qP D ([(ns, .inr (3, [.ref ar, .int (nI (List.length L))])), (ar, .inl (cJ, N, .inr (.inl f)))]) [(cJ, .long)])) (vp_Si (fun rv : Int32 => rv = (if v ∈ L then 1 else 0))) 0 0 (fun _ => False) := by
  refine Met.ofW (cc := cX4_holds) (maxL := 4) (ret := (some .boolean)) (by decide) rfl ?_
  intro pM eM s mi9 argsM belowM methM cM sM B hml hv
  obtain ⟨rfl, hR, hK, hNw⟩ := hv
  have hx := B.exec
  have hb := B.bytes
  have hr := B.returns
  have hts := atoms_spec (ws := wsX4_holds) B.pre
  have hown : s.vm.findClass RX4 = some mi9.cls := findClass_of_methodNamed B.named
  have hlocks := B.notSynchronized
  have hS : va_S (fun _ => False) s.heap s.heap [] := va_S.rf
  have hR : va_P D vwCl ([(ns, .inr (3, [.ref ar, .int (nI (List.length L))])), (ar, .inl (cJ, N, .inr (.inl f)))]) s.heap := hR
  have hl := lv_entry ([.ref ns, .long (lN v)]) (n := 4) (Nat.le_of_ble_eq_true rfl)
  rw [lg_entry_eq]
  generalize (lg_sl ([.ref ns, .long (lN v)]) ++ List.replicate (4 - (lg_sl ([.ref ns, .long (lN v)])).length) Slot.unset).toArray = ls at hl ⊢
  have hl : lv_has ls 4 [(0, .ref ns), (1, .long (lN v))] := hl
  refine lv_iconst (v := nI 0) hx hb dX4_holds_0 (by decide) ?_
  refine lv_istore_n (lv' := [(3, .int (nI 0)), (0, .ref ns), (1, .long (lN v))]) hx hb dX4_holds_1 rfl hl (by decide) rfl (fun ls hl => ?_)
  refine q_loop (fun (x : (Nat)) (Hc : Heap) (Lc : List Loc) (ls : Array Slot) => match x with | i => (i ≤ List.length L) ∧ (∀ j, j < i → List.getD L j 0 ≠ v) ∧ s.heap = Hc ∧ [] = Lc ∧ lv_has ls 4 [(3, .int (nI i)), (0, .ref ns), (1, .long (lN v))]) (fun (x : (Nat)) => match x with | i => List.length L - i) 0 ⟨(by omega), (fun j hj => by omega), rfl, rfl, (lv_sub hl [0, 1, 2] rfl)⟩ ?_
  clear hl
  rintro i Hc Lc ls hI ih_2
  obtain ⟨hi, hno, rfl, rfl, hl⟩ := hI
  refine lv_iload_n hx hb dX4_holds_2 rfl (lv_at hl 0 rfl) ?_
  refine lv_aload_n hx hb dX4_holds_3 rfl (lv_at hl 1 rfl) ?_
  refine va_get (D := D) (own := RX4) (ref := "FuzzyFens$NumberSet") (ci := 3) (v := .int (nI (List.length L))) (C := RX4) (T := TX4) (N := 2) hx hb hts iX4_holds_X4 hown hK hR 0 rfl rfl 1 (by decide) (hts (.fieldLink RX4 13 "FuzzyFens$NumberSet" "size" "I") (List.mem_of_getElem? (i := 1) rfl)) (fun _ h9 => h9) rfl dX4_holds_4 ?_
  refine q_icmp_ge (a := i) (b := List.length L) (tgt := 38) hx hb dX4_holds_7 (by decide) (by omega) (by omega) (fun c_7 => ?_) (fun c_7 => ?_)
  · skip
    refine lv_iconst (v := nI 0) hx hb dX4_holds_38 (by decide) ?_
    exact W.zret (v := nI 0) hx hb hr (by decide) (fun t9 ht _ => ⟨nI 0, rfl, (if_neg (fun h => by obtain ⟨j, hj, e⟩ := q_mem.mp h; exact hno j (by omega) e)).symm, ht⟩) (fun _ h => absurd h List.not_mem_nil) dX4_holds_39
  · skip
    refine lv_iload_n hx hb dX4_holds_10 rfl (lv_at hl 0 rfl) ?_
    refine lv_aload_n hx hb dX4_holds_11 rfl (lv_at hl 1 rfl) ?_
    refine va_get (D := D) (own := RX4) (ref := "FuzzyFens$NumberSet") (ci := 3) (v := .ref ar) (C := RX4) (T := TX4) (N := 2) hx hb hts iX4_holds_X4 hown hK hR 0 rfl rfl 0 (by decide) (hts (.fieldLink RX4 7 "FuzzyFens$NumberSet" "numbers" "[J") (List.mem_of_getElem? (i := 2) rfl)) (fun _ h9 => h9) rfl dX4_holds_12 ?_
    refine va_alen (D := D) (v := nI N) hx hb hK hR 1 0 rfl rfl rfl dX4_holds_15 ?_
    refine q_icmp_ge (a := i) (b := N) (tgt := 38) hx hb dX4_holds_16 (by decide) (by omega) (by omega) (fun c_16 => ?_) (fun c_16 => ?_)
    · skip
      refine lv_iconst (v := nI 0) hx hb dX4_holds_38 (by decide) ?_
      exact W.zret (v := nI 0) hx hb hr (by decide) (fun t9 ht _ => ⟨nI 0, rfl, (by omega), ht⟩) (fun _ h => absurd h List.not_mem_nil) dX4_holds_39
    · skip
      refine lv_aload_n hx hb dX4_holds_19 rfl (lv_at hl 1 rfl) ?_
      refine va_get (D := D) (own := RX4) (ref := "FuzzyFens$NumberSet") (ci := 3) (v := .ref ar) (C := RX4) (T := TX4) (N := 2) hx hb hts iX4_holds_X4 hown hK hR 0 rfl rfl 0 (by decide) (hts (.fieldLink RX4 7 "FuzzyFens$NumberSet" "numbers" "[J") (List.mem_of_getElem? (i := 2) rfl)) (fun _ h9 => h9) rfl dX4_holds_20 ?_
      refine lv_iload_n hx hb dX4_holds_23 rfl (lv_at hl 0 rfl) ?_
      refine va_lald (D := D) hx hb hK hR 1 0 rfl rfl (vp_in_nI (n := i) (N := N) (by omega) (by omega)) dX4_holds_24 ?_
      rw [nI_clamp (n := i) (by omega)]
      refine q_cvl (show (f i) = (lN (List.getD L i 0)) from hL i (by omega)) ?_
      refine lv_lload_n hx hb dX4_holds_25 rfl (lv_at hl 2 rfl) ?_
      refine W.lcmp hx hb dX4_holds_26 ?_
      refine q_lc_ne (a := List.getD L i 0) (b := v) (tgt := 32) hx hb dX4_holds_27 (by decide) (hLb i (by omega)) (by omega) (fun c_27 => ?_) (fun c_27 => ?_)
      · skip
        refine lv_iinc (v := nI (i + 1)) (lv' := [(3, .int (nI (i + 1))), (0, .ref ns), (1, .long (lN v))]) hx hb dX4_holds_32 hl (k := 0) rfl (q_inc (k := 1) (by omega)) (by decide) rfl (fun ls hl => ?_)
        refine lv_goto (tgt := 2) hx hb dX4_holds_35 (by decide) ?_
        exact ih_2 (i + 1) _ _ _ ⟨(by omega), (fun j hj e => by by_cases h9 : j = i; (exact c_27 (h9 ▸ e)); (exact hno j (by omega) e)), rfl, rfl, (lv_sub hl [0, 1, 2] rfl)⟩ (by show List.length L - (i + 1) < List.length L - i; omega)
      · skip
        refine lv_iconst (v := nI 1) hx hb dX4_holds_30 (by decide) ?_
        exact W.zret (v := nI 1) hx hb hr (by decide) (fun t9 ht _ => ⟨nI 1, rfl, (if_pos (q_mem.mpr ⟨i, by omega, c_27⟩)).symm, ht⟩) (fun _ h => absurd h List.not_mem_nil) dX4_holds_31

set_option maxRecDepth 20000 in
theorem iX4_put_X4 : ∀ w ∈ wsX40, w ∈ wsX4_put := by decide +kernel
set_option maxHeartbeats 4000000 in
set_option maxRecDepth 100000 in
/-- NumberSet.put -/
theorem c_X4_put (l : Launch) (D : va_G) (sz : Nat) (ns : Nat) (ar : Nat) (cJ : ClassId) (N : Nat) (f : Nat → Int64) (L : List Nat) (v : Nat) (hnd : ([ns, ar] ++ []).Nodup) (hL : ∀ j, j < List.length L → f j = lN (List.getD L j 0)) (hLb : ∀ j, j < List.length L → List.getD L j 0 < 2 ^ 63) (hN : List.length L < N) (hN2 : N < 2 ^ 31) (hv : v < 2 ^ 63) : Met l yX4_put wsX4_put { frames := 1, cells := 0, slots := 0, locals := 23 } (va_Pc [.ref ns, .long (lN v)] (qW D sz ([]) [(ns, .inr (3, [.ref ar, .int (nI (List.length L))])), (ar, .inl (cJ, N, .inr (.inl f)))] [(cJ, .long)])) (va_Qv (fun (uv : (Nat → Int64)) => ∀ j, j < List.length (ins L v) → uv j = lN (List.getD (ins L v) j 0)) (fun (uv : (Nat → Int64)) (tv : State) => va_P D vwCl [(ns, .inr (3, [.ref ar, .int (nI (List.length (ins L v)))])), (ar, .inl (cJ, N, .inr (.inl uv)))] tv.heap) (va_A [(ns, .inr (3, [.ref ar, .int (nI (List.length L))])), (ar, .inl (cJ, N, .inr (.inl f)))] sz)) 0 0 (va_A [(ns, .inr (3, [.ref ar, .int (nI (List.length L))])), (ar, .inl (cJ, N, .inr (.inl f)))] sz) := by
  refine Met.ofW (cc := cX4_put) (maxL := 3) (ret := none) (by decide) rfl ?_
  intro pM eM s mi9 argsM belowM methM cM sM B hml hv
  obtain ⟨rfl, hsz, hR0, hP, hK, hNw⟩ := hv
  have hx := B.exec
  have hb := B.bytes
  have hr := B.returns
  have hts := atoms_spec (ws := wsX4_put) B.pre
  have hown : s.vm.findClass RX4 = some mi9.cls := findClass_of_methodNamed B.named
  have hlocks := B.notSynchronized
  subst hsz
  have hna := q_na (RW := [(ns, .inr (3, [.ref ar, .int (nI (List.length L))])), (ar, .inl (cJ, N, .inr (.inl f)))]) (RO := []) hnd rfl rfl hR0
  have hD := q_D (RW := [(ns, .inr (3, [.ref ar, .int (nI (List.length L))])), (ar, .inl (cJ, N, .inr (.inl f)))]) (sz := s.heap.size) hnd rfl
  have hA : ∀ q : Nat, s.heap.size ≤ q → va_A [(ns, .inr (3, [.ref ar, .int (nI (List.length L))])), (ar, .inl (cJ, N, .inr (.inl f)))] s.heap.size q := fun q h => Or.inr h
  generalize hAe : va_A [(ns, .inr (3, [.ref ar, .int (nI (List.length L))])), (ar, .inl (cJ, N, .inr (.inl f)))] s.heap.size = A at hna hD hA ⊢
  have hS : va_S A s.heap s.heap [] := va_S.rf
  have hR := hR0
  have hP : va_P D vwCl [(ns, .inr (3, [.ref ar, .int (nI (List.length L))])), (ar, .inl (cJ, N, .inr (.inl f)))] s.heap := hP
  have hl := lv_entry ([.ref ns, .long (lN v)]) (n := 3) (Nat.le_of_ble_eq_true rfl)
  rw [lg_entry_eq]
  generalize (lg_sl ([.ref ns, .long (lN v)]) ++ List.replicate (3 - (lg_sl ([.ref ns, .long (lN v)])).length) Slot.unset).toArray = ls at hl ⊢
  have hl : lv_has ls 3 [(0, .ref ns), (1, .long (lN v))] := hl
  refine lv_aload_n hx hb dX4_put_0 rfl (lv_at hl 0 rfl) ?_
  refine va_get (D := D) (own := RX4) (ref := "FuzzyFens$NumberSet") (ci := 3) (v := .int (nI (List.length L))) (C := RX4) (T := TX4) (N := 2) hx hb hts iX4_put_X4 hown hK hP 0 rfl rfl 1 (by decide) (hts (.fieldLink RX4 13 "FuzzyFens$NumberSet" "size" "I") (List.mem_of_getElem? (i := 1) rfl)) (fun _ h9 => h9) rfl dX4_put_1 ?_
  refine lv_aload_n hx hb dX4_put_4 rfl (lv_at hl 0 rfl) ?_
  refine va_get (D := D) (own := RX4) (ref := "FuzzyFens$NumberSet") (ci := 3) (v := .ref ar) (C := RX4) (T := TX4) (N := 2) hx hb hts iX4_put_X4 hown hK hP 0 rfl rfl 0 (by decide) (hts (.fieldLink RX4 7 "FuzzyFens$NumberSet" "numbers" "[J") (List.mem_of_getElem? (i := 2) rfl)) (fun _ h9 => h9) rfl dX4_put_5 ?_
  refine va_alen (D := D) (v := nI N) hx hb hK hP 1 0 rfl rfl rfl dX4_put_8 ?_
  refine q_icmp_ge (a := List.length L) (b := N) (tgt := 40) hx hb dX4_put_9 (by decide) (by omega) (by omega) (fun c_9 => False.elim (by omega)) (fun c_9 => ?_)
  refine lv_aload_n hx hb dX4_put_12 rfl (lv_at hl 0 rfl) ?_
  refine lv_lload_n hx hb dX4_put_13 rfl (lv_at hl 1 rfl) ?_
  refine vp_callSi (W.runV (As := [.long (lN v)]) (rest := []) ⟨hx, hb, hml, hown, hts⟩ (c_X4_holds (l := l) (D := D) (ns := ns) (ar := ar) (cJ := cJ) (N := N) (f := f) (L := L) (v := v) (hL := hL) (hLb := hLb) (hN := hN) (hN2 := hN2) (hv := hv)) (cwV 1 hts gX4_put_X4_holds rfl rfl rfl (by decide +kernel) ⟨Nat.le_of_ble_eq_true rfl, Nat.le_of_ble_eq_true rfl⟩) ⟨qP_blind, (va_recv hK hP (ci := 3) (q0 := 0) rfl rfl), (qP_of (hP.sub (ws' := [(ns, .inr (3, [.ref ar, .int (nI (List.length L))])), (ar, .inl (cJ, N, .inr (.inl f)))]) [0, 1] rfl) (hK.sub (tys' := [(cJ, .long)]) [0] rfl) hNw)⟩ rfl rfl hl.1 rfl (lv_room (Nat.le_of_ble_eq_true rfl)) dX4_put_14 ⟨Nat.le_of_ble_eq_true rfl, Nat.le_of_ble_eq_true rfl⟩) (fun r_1 hr_1 => ?_)
  subst hr_1
  refine q_ifb_ne (tgt := 40) hx hb dX4_put_17 (by decide) (fun c_17 => ?_) (fun c_17 => ?_)
  · skip
    have e9 : ins L v = L := if_pos c_17
    exact W.vret hx hb hr (fun t9 ht hW => ⟨⟨f, rfl, (by rw [e9]; exact hL), by show va_P D vwCl _ t9.heap; rw [ht, e9]; exact hP⟩, hS.F ht⟩) hS.2.2 dX4_put_40
  · skip
    refine lv_aload_n hx hb dX4_put_20 rfl (lv_at hl 0 rfl) ?_
    refine va_get (D := D) (own := RX4) (ref := "FuzzyFens$NumberSet") (ci := 3) (v := .ref ar) (C := RX4) (T := TX4) (N := 2) hx hb hts iX4_put_X4 hown hK hP 0 rfl rfl 0 (by decide) (hts (.fieldLink RX4 7 "FuzzyFens$NumberSet" "numbers" "[J") (List.mem_of_getElem? (i := 2) rfl)) (fun _ h9 => h9) rfl dX4_put_21 ?_
    refine lv_aload_n hx hb dX4_put_24 rfl (lv_at hl 0 rfl) ?_
    refine va_get (D := D) (own := RX4) (ref := "FuzzyFens$NumberSet") (ci := 3) (v := .int (nI (List.length L))) (C := RX4) (T := TX4) (N := 2) hx hb hts iX4_put_X4 hown hK hP 0 rfl rfl 1 (by decide) (hts (.fieldLink RX4 13 "FuzzyFens$NumberSet" "size" "I") (List.mem_of_getElem? (i := 1) rfl)) (fun _ h9 => h9) rfl dX4_put_25 ?_
    refine lv_lload_n hx hb dX4_put_28 rfl (lv_at hl 1 rfl) ?_
    refine va_last (D := D) hx hb hK hP hD hS 1 0 rfl rfl (vp_in_nI (n := List.length L) (N := N) (by omega) (by omega)) dX4_put_29 (fun H_2 locs_3 hP hD hS => ?_)
    rw [nI_clamp (n := List.length L) (by omega)] at hP hD
    have hP : va_P D vwCl [(ns, .inr (3, [.ref ar, .int (nI (List.length L))])), (ar, .inl (cJ, N, .inr (.inl (vp_updL f (List.length L) (lN v)))))] H_2 := hP
    have hD : va_D A [(ns, .inr (3, [.ref ar, .int (nI (List.length L))])), (ar, .inl (cJ, N, .inr (.inl (vp_updL f (List.length L) (lN v)))))] := hD
    have hR := q_ro hR0 hna hS
    refine lv_aload_n hx hb dX4_put_30 rfl (lv_at hl 0 rfl) ?_
    refine lv_dup hx hb dX4_put_31 rfl ?_
    refine va_get (D := D) (own := RX4) (ref := "FuzzyFens$NumberSet") (ci := 3) (v := .int (nI (List.length L))) (C := RX4) (T := TX4) (N := 2) hx hb hts iX4_put_X4 hown hK hP 0 rfl rfl 1 (by decide) (hts (.fieldLink RX4 13 "FuzzyFens$NumberSet" "size" "I") (List.mem_of_getElem? (i := 1) rfl)) (fun _ h9 => h9) rfl dX4_put_32 ?_
    refine lv_iconst (v := nI 1) hx hb dX4_put_35 (by decide) ?_
    refine q_iadd (d := List.length L + 1) hx hb dX4_put_36 (by omega) ?_
    refine va_put (D := D) (ci := 3) (v := .int (nI (List.length L + 1))) (ty := .int) (C := RX4) (T := TX4) (N := 2) hx hb hts iX4_put_X4 tyX4 tyX4_ok nmX4 hown hK hP hD hS 0 rfl rfl 1 (by decide) (hts (.fieldLink RX4 13 "FuzzyFens$NumberSet" "size" "I") (List.mem_of_getElem? (i := 1) rfl)) (fun _ h9 => h9) rfl (by decide +kernel) rfl rfl (Nat.le_of_ble_eq_true rfl) dX4_put_37 (fun H_4 locs_5 hP hD hS => ?_)
    have hP : va_P D vwCl [(ns, .inr (3, [.ref ar, .int (nI (List.length L + 1))])), (ar, .inl (cJ, N, .inr (.inl (vp_updL f (List.length L) (lN v)))))] H_4 := hP
    have hD : va_D A [(ns, .inr (3, [.ref ar, .int (nI (List.length L + 1))])), (ar, .inl (cJ, N, .inr (.inl (vp_updL f (List.length L) (lN v)))))] := hD
    have hR := q_ro hR0 hna hS
    have e9 : ins L v = L ++ [v] := if_neg c_17
    have e8 : List.length (L ++ [v]) = List.length L + 1 := by rw [List.length_append]; rfl
    exact W.vret hx hb hr (fun t9 ht hW => ⟨⟨vp_updL f (List.length L) (lN v), rfl, (by rw [e9, e8]; intro j hj; by_cases e : j = List.length L; (rw [e, getD_last]; exact pk_uLs); (rw [getD_app (by omega), pk_uLn e]; exact hL j (by omega))), by show va_P D vwCl _ t9.heap; rw [ht, e9, e8]; exact hP⟩, hS.F ht⟩) hS.2.2 dX4_put_40
