/-! the pool with one more, its functions named -/
theorem q_growE {X : va_W} {ea wa : Nat → Nat} {pf : Nat → Option Nat} {cn dp oc : Nat → Nat} {ic lf pt : Nat → Int32} {wd : Nat → Nat} {n e9 w9 v9 : Nat} {p9 : Option Nat} {c9 d9 o9 : Nat} {i9 l9 t9 : Int32} :
    ∃ (ea2 wa2 : Nat → Nat) (pf2 : Nat → Option Nat) (cn2 dp2 oc2 : Nat → Nat) (ic2 lf2 pt2 : Nat → Int32) (wd2 : Nat → Nat),
      ea2 n = e9 ∧ wa2 n = w9 ∧ pf2 n = p9 ∧ cn2 n = c9 ∧ dp2 n = d9 ∧ oc2 n = o9 ∧ wd2 n = v9 ∧
      (∀ k, k < n → ea2 k = ea k ∧ pf2 k = pf k ∧ cn2 k = cn k ∧ dp2 k = dp k ∧ oc2 k = oc k ∧ wd2 k = wd k) ∧
      List.Perm ((X ++ [(w9, .inr (7, [.long (lN v9), .int (nI (wl v9)), .long (lN (al v9))])), (e9, .inr (0, [.ref w9, va_rf p9, .int (nI c9), .int (nI d9), .int (nI o9), .int i9, .int l9, .int t9]))]) ++ (EW ea wa pf cn dp oc ic lf pt n ++ WW wa wd n))
        (X ++ (EW ea2 wa2 pf2 cn2 dp2 oc2 ic2 lf2 pt2 (n + 1) ++ WW wa2 wd2 (n + 1))) := by
  refine ⟨va_up ea n e9, va_up wa n w9, va_up pf n p9, va_up cn n c9, va_up dp n d9, va_up oc n o9, va_up ic n i9, va_up lf n l9, va_up pt n t9, va_up wd n v9, q_ups, q_ups, q_ups, q_ups, q_ups, q_ups, q_ups, fun k hk => ⟨q_upn (by omega), q_upn (by omega), q_upn (by omega), q_upn (by omega), q_upn (by omega), q_upn (by omega)⟩, ?_⟩
  refine List.Perm.trans ?_ q_grow
  refine List.Perm.append_right _ (List.Perm.append_left X ?_)
  exact List.Perm.swap _ _ []
