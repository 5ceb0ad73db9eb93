/-! the statics that are read: the keyboard's rows, what a Throwable's making asks -/
def q_rows : Nat → Int32 := fun j => nI (kro.getD (j + 1) 9)
def q_plcs : Nat → Int32 := fun j => nI (kpl.getD (j + 1) 9)
def qZ (B : Nat → Prop) (U : State) (H : Heap) : Prop :=
  (∃ t : Nat, va_Z "FuzzyFens$Keyboard" "ROWS" "[I" (.ref t) B U H ∧ va_T .int t 26 (fun j => .int (q_rows j)) B U H) ∧
  (∃ t : Nat, va_Z "FuzzyFens$Keyboard" "PLACES" "[I" (.ref t) B U H ∧ va_T .int t 26 (fun j => .int (q_plcs j)) B U H) ∧
  vx_Zq Bundle.tN "UNASSIGNED_STACK" Bundle.steD B U H ∧ vx_Zq Bundle.tN "SUPPRESSED_SENTINEL" Bundle.listD B U H
theorem qZ_moved {B : Nat → Prop} {u U : State} {H : Heap} (hvm : u.vm.Alike U.vm) (h : qZ B u H) : qZ B U H := by
  obtain ⟨⟨t, h1, h2⟩, ⟨t2, h3, h4⟩, h5, h6⟩ := h
  exact ⟨⟨t, va_Z.moved hvm h1, va_T.moved hvm h2⟩, ⟨t2, va_Z.moved hvm h3, va_T.moved hvm h4⟩, vx_Zq.moved hvm h5, vx_Zq.moved hvm h6⟩
theorem qZ_kept {B : Nat → Prop} {U : State} {H H1 : Heap} (h : qZ B U H) (hq : ∀ a : Nat, a < H.size → ¬ B a → H1[a]? = H[a]?) : qZ B U H1 := by
  obtain ⟨⟨t, h1, h2⟩, ⟨t2, h3, h4⟩, h5, h6⟩ := h
  exact ⟨⟨t, va_Z.kept h1 hq, va_T.kept h2 hq⟩, ⟨t2, va_Z.kept h3 hq, va_T.kept h4 hq⟩, vx_Zq.kept h5 hq, vx_Zq.kept h6 hq⟩
theorem qZ_narrow {A B : Nat → Prop} {U : State} {H : Heap} (h : qZ A U H) (hAB : ∀ q, B q → A q) : qZ B U H := by
  obtain ⟨⟨t, h1, h2⟩, ⟨t2, h3, h4⟩, h5, h6⟩ := h
  exact ⟨⟨t, va_Z.narrow h1 hAB, va_T.narrow h2 hAB⟩, ⟨t2, va_Z.narrow h3 hAB, va_T.narrow h4 hAB⟩, vx_Zq.narrow h5 hAB, vx_Zq.narrow h6 hAB⟩
theorem qZ_at {A B : Nat → Prop} {U : State} {H0 H : Heap} {locs : List Loc} (h : qZ A U H0) (hS : va_S A H0 H locs) (hAB : ∀ q, B q → A q) : qZ B U H := qZ_narrow (qZ_kept h hS.2.1) hAB
abbrev qPz (D : va_G) (ro : va_W) (tys : List (ClassId × FieldType)) : State → Prop := fun U => va_P D vwCl ro U.heap ∧ va_K D vwCl tys U ∧ qN U ∧ qZ (fun _ => False) U U.heap
abbrev qWz (D : va_G) (sz : Nat) (ro rw : va_W) (tys : List (ClassId × FieldType)) : State → Prop := fun U => U.heap.size = sz ∧ va_P D vwCl ro U.heap ∧ va_P D vwCl rw U.heap ∧ va_K D vwCl tys U ∧ qN U ∧ qZ (va_A rw sz) U U.heap
abbrev qPt (D : va_G) (ro : va_W) (tys : List (ClassId × FieldType)) (t N : Nat) (F : Nat → Int32) : State → Prop := fun U => va_P D vwCl ro U.heap ∧ va_K D vwCl tys U ∧ qN U ∧ va_T .int t N (fun j => .int (F j)) (fun _ => False) U U.heap
theorem qPz_blind {D : va_G} {av : List Value} {ro : va_W} {tys : List (ClassId × FieldType)} : FrameBlind (va_Pc av (qPz D ro tys)) := fun a U g mk q => ⟨q.1, q.2.1, va_K.moved (u := U) (U := U.calling g mk a) (Vm.Alike.refl U.vm) q.2.2.1, qN_vm (s := U) (U := U.calling g mk a) rfl q.2.2.2.1, qZ_moved (u := U) (U := U.calling g mk a) (Vm.Alike.refl U.vm) q.2.2.2.2⟩
theorem qPt_blind {D : va_G} {av : List Value} {ro : va_W} {tys : List (ClassId × FieldType)} {t N : Nat} {F : Nat → Int32} : FrameBlind (va_Pc av (qPt D ro tys t N F)) := fun a U g mk q => ⟨q.1, q.2.1, va_K.moved (u := U) (U := U.calling g mk a) (Vm.Alike.refl U.vm) q.2.2.1, qN_vm (s := U) (U := U.calling g mk a) rfl q.2.2.2.1, va_T.moved (u := U) (U := U.calling g mk a) (Vm.Alike.refl U.vm) q.2.2.2.2⟩
theorem qWz_blind {D : va_G} {sz : Nat} {av : List Value} {ro rw : va_W} {tys : List (ClassId × FieldType)} : FrameBlind (va_Pc av (qWz D sz ro rw tys)) := fun a U g mk q => ⟨q.1, q.2.1, q.2.2.1, q.2.2.2.1, va_K.moved (u := U) (U := U.calling g mk a) (Vm.Alike.refl U.vm) q.2.2.2.2.1, qN_vm (s := U) (U := U.calling g mk a) rfl q.2.2.2.2.2.1, qZ_moved (u := U) (U := U.calling g mk a) (Vm.Alike.refl U.vm) q.2.2.2.2.2.2⟩
theorem qPz_of {D : va_G} {as : List Value} {ro : va_W} {tys : List (ClassId × FieldType)} {s : State} {H : Heap} (hR : va_P D vwCl ro H) (hK : va_K D vwCl tys s) (hN : qN s) (hZ : qZ (fun _ => False) s H) : ∀ U : State, U.heap = H → s.WarmedH U.vm → va_Pc as (qPz D ro tys) as.toArray U := fun U hU hW => ⟨rfl, by rw [hU]; exact hR, va_K.moved hW.alike hK, qN_warm hW hN, by rw [hU]; exact qZ_moved hW.alike hZ⟩
theorem qPt_of {D : va_G} {as : List Value} {ro : va_W} {tys : List (ClassId × FieldType)} {t N : Nat} {F : Nat → Int32} {s : State} {H : Heap} (hR : va_P D vwCl ro H) (hK : va_K D vwCl tys s) (hN : qN s) (hT : va_T .int t N (fun j => .int (F j)) (fun _ => False) s H) : ∀ U : State, U.heap = H → s.WarmedH U.vm → va_Pc as (qPt D ro tys t N F) as.toArray U := fun U hU hW => ⟨rfl, by rw [hU]; exact hR, va_K.moved hW.alike hK, qN_warm hW hN, by rw [hU]; exact va_T.moved hW.alike hT⟩
theorem qWz_of {D : va_G} {as : List Value} {ro rw : va_W} {tys : List (ClassId × FieldType)} {s : State} {H : Heap} (hR : va_P D vwCl ro H) (hP : va_P D vwCl rw H) (hK : va_K D vwCl tys s) (hN : qN s) (hZ : qZ (va_A rw H.size) s H) : ∀ U : State, U.heap = H → s.WarmedH U.vm → va_Pc as (qWz D H.size ro rw tys) as.toArray U := fun U hU hW => ⟨rfl, by rw [hU], by rw [hU]; exact hR, by rw [hU]; exact hP, va_K.moved hW.alike hK, qN_warm hW hN, by rw [hU]; exact qZ_moved hW.alike hZ⟩
