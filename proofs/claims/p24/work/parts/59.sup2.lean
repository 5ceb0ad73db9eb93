/-! a pool that has got one more -/
section EW2
variable {ea wa : Nat → Nat} {pf : Nat → Option Nat} {cn dp oc : Nat → Nat} {ic lf pt : Nat → Int32} {n : Nat}
theorem EW_sn {ea' : Nat → Nat} {w9 : Nat} {p9 : Option Nat} {c9 d9 o9 : Nat} {i9 l9 t9 : Int32} (h : ∀ k, k < n → ea' k = ea k) : EW ea' (va_up wa n w9) (va_up pf n p9) (va_up cn n c9) (va_up dp n d9) (va_up oc n o9) (va_up ic n i9) (va_up lf n l9) (va_up pt n t9) (n + 1) = EW ea wa pf cn dp oc ic lf pt n ++ [(ea' n, .inr (0, [.ref w9, va_rf p9, .int (nI c9), .int (nI d9), .int (nI o9), .int i9, .int l9, .int t9]))] := by
  have h2 : EW ea' (va_up wa n w9) (va_up pf n p9) (va_up cn n c9) (va_up dp n d9) (va_up oc n o9) (va_up ic n i9) (va_up lf n l9) (va_up pt n t9) n = EW ea wa pf cn dp oc ic lf pt n :=
    EW_cg (fun k hk => ⟨h k hk, q_upn (by omega), q_upn (by omega), q_upn (by omega), q_upn (by omega), q_upn (by omega), q_upn (by omega), q_upn (by omega), q_upn (by omega)⟩)
  rw [← h2]
  unfold EW
  rw [List.range_succ, List.map_append]
  simp only [List.map_cons, List.map_nil, q_ups]
theorem q_poolP {D : va_G} {cl : List vw_C} {H : Heap} {wd ea' : Nat → Nat} {w9 v9 : Nat} {p9 : Option Nat} {c9 d9 o9 : Nat} {i9 l9 t9 : Int32} (h : ∀ k, k < n → ea' k = ea k) (hE : va_P D cl (EW ea wa pf cn dp oc ic lf pt n ++ WW wa wd n) H)
    (h1 : va_P D cl [(ea' n, .inr (0, [.ref w9, va_rf p9, .int (nI c9), .int (nI d9), .int (nI o9), .int i9, .int l9, .int t9]))] H) (h3 : va_P D cl [(w9, .inr (7, [.long (lN v9), .int (nI (wl v9)), .long (lN (al v9))]))] H) :
    va_P D cl (EW ea' (va_up wa n w9) (va_up pf n p9) (va_up cn n c9) (va_up dp n d9) (va_up oc n o9) (va_up ic n i9) (va_up lf n l9) (va_up pt n t9) (n + 1) ++ WW (va_up wa n w9) (va_up wd n v9) (n + 1)) H := by
  rw [EW_sn h, WW_up]
  exact va_P.app (va_P.app (q_left hE) h1) (va_P.app (q_right hE) h3)
theorem rg_sn {f f' : Nat → Nat} (h : ∀ k, k < n → f' k = f k) : rg f' (n + 1) = rg f n ++ [f' n] := by
  unfold rg
  rw [List.range_succ, List.map_append]
  have : List.map f' (List.range n) = List.map f (List.range n) := List.map_congr_left (fun k hk => h k (List.mem_range.mp hk))
  rw [this]; rfl
theorem q_ndgr {a : List Nat} {ea' : Nat → Nat} {w9 : Nat} (h : ∀ k, k < n → ea' k = ea k) (hn : (a ++ ([ea' n, w9] ++ (rg ea n ++ rg wa n))).Nodup) : (a ++ ([] ++ (rg ea' (n + 1) ++ rg (va_up wa n w9) (n + 1)))).Nodup := by
  rw [rg_sn h, rg_sn (f := wa) (f' := va_up wa n w9) (fun k hk => q_upn (by omega)), q_ups]
  generalize rg ea n = E at hn ⊢
  generalize rg wa n = V at hn ⊢
  have hp : List.Perm (a ++ ([ea' n, w9] ++ (E ++ V))) (a ++ ([] ++ ((E ++ [ea' n]) ++ (V ++ [w9])))) := by
    refine List.Perm.append_left a ?_
    show List.Perm ([ea' n] ++ ([w9] ++ (E ++ V))) ((E ++ [ea' n]) ++ (V ++ [w9]))
    have h1 : List.Perm ([w9] ++ (E ++ V)) (E ++ (V ++ [w9])) := by
      rw [← List.append_assoc E V [w9]]
      exact List.perm_append_comm
    have h2 : List.Perm ([ea' n] ++ (E ++ (V ++ [w9]))) (E ++ [ea' n] ++ (V ++ [w9])) := by
      rw [← List.append_assoc]
      exact List.Perm.append_right _ List.perm_append_comm
    exact (List.Perm.append_left [ea' n] h1).trans h2
  exact hp.nodup_iff.mp hn
end EW2
theorem q_fzb (P : Prop) [Decidable P] : fits .boolean (.int (if P then 1 else 0)) = true := by
  by_cases h : P <;> simp [h] <;> decide
