/-! worlds that grow, pools that are written, what a throw asks -/
theorem q_nodD {A : Nat → Prop} {ws : va_W} (hD : va_D A ws) : (ws.map (·.1)).Nodup := by
  refine List.pairwise_iff_getElem.mpr (fun i j hi hj hij e => ?_)
  have hi2 : i < ws.length := by simpa using hi
  have hj2 : j < ws.length := by simpa using hj
  have e1 : ws[i]? = some ws[i] := List.getElem?_eq_getElem hi2
  have e2 : ws[j]? = some ws[j] := List.getElem?_eq_getElem hj2
  have e3 : (ws[i]).1 = (ws[j]).1 := by simpa using e
  have := hD.1 i j _ _ e1 e2 e3
  omega
theorem q_memD {A : Nat → Prop} {ws : va_W} (hD : va_D A ws) : ∀ q ∈ ws, A q.1 := by
  intro q hq
  obtain ⟨k, hk⟩ := List.mem_iff_getElem?.mp hq
  exact hD.2 k q hk
theorem q_ndg {A : Nat → Prop} {ws RO : va_W} {l1 l2 : List Nat} (hD : va_D A ws) (hR : (RO.map (·.1)).Nodup) (hna : ∀ q ∈ RO, ¬ A q.1) (h1 : ws.map (·.1) = l1) (h2 : RO.map (·.1) = l2) : (l1 ++ l2).Nodup := by
  subst h1; subst h2
  refine List.nodup_append.mpr ⟨q_nodD hD, hR, ?_⟩
  intro x hx y hy e
  obtain ⟨q, hq, hq1⟩ := List.mem_map.mp hx
  obtain ⟨r, hr, hr1⟩ := List.mem_map.mp hy
  have h3 := q_memD hD q hq
  refine hna r hr ?_
  have e2 : r.1 = q.1 := hr1.trans (e.symm.trans hq1.symm)
  rw [e2]; exact h3
theorem q_ndsw {a t b : List Nat} (h : ((a ++ t) ++ b).Nodup) : (a ++ (b ++ t)).Nodup := by
  have hp : List.Perm ((a ++ t) ++ b) (a ++ (b ++ t)) := by
    rw [List.append_assoc]
    exact List.Perm.append_left a List.perm_append_comm
  exact hp.nodup_iff.mp h
theorem q_ndws {a t b : List Nat} (h : (a ++ (b ++ t)).Nodup) : ((a ++ t) ++ b).Nodup := by
  have hp : List.Perm ((a ++ t) ++ b) (a ++ (b ++ t)) := by
    rw [List.append_assoc]
    exact List.Perm.append_left a List.perm_append_comm
  exact hp.nodup_iff.mpr h
theorem q_kept {D : va_G} {cl : List vw_C} {ws : va_W} {H H1 : Heap} (hP : va_P D cl ws H) (hk : ∀ q : Nat, q < H.size → H1[q]? = H[q]?) : va_P D cl ws H1 := va_P.kept hP (fun k q hq => hk q.1 (va_at.lt (hP k q hq)))
theorem q_Dperm {A : Nat → Prop} {ws ws' : va_W} (hp : List.Perm ws ws') (hD : va_D A ws) : va_D A ws' :=
  q_Dof ((hp.map (·.1)).nodup_iff.mp (q_nodD hD)) (fun q hq => q_memD hD q (hp.mem_iff.mpr hq))
theorem q_Pperm {D : va_G} {cl : List vw_C} {ws ws' : va_W} {H : Heap} (hp : List.Perm ws ws') (hP : va_P D cl ws H) : va_P D cl ws' H :=
  q_Pof (fun q hq => q_atmem hP (hp.mem_iff.mpr hq))
theorem q_mv {X T Y : va_W} : List.Perm ((X ++ T) ++ Y) ((X ++ Y) ++ T) := by
  rw [List.append_assoc, List.append_assoc]
  exact List.Perm.append_left X List.perm_append_comm
theorem q_joinF {ws wc w1 : va_W} (is : List Nat) (hC : is.map (fun i => ws[i]?) = wc.map some) (hfst : w1.map (·.1) = wc.map (·.1)) : (q_sets ws is w1).map (·.1) = ws.map (·.1) := by
  refine q_sets_fst is w1 ws ?_
  rw [hfst]
  have : is.map (fun i => (ws.map (·.1))[i]?) = (is.map (fun i => ws[i]?)).map (Option.map (·.1)) := by
    rw [List.map_map]; apply List.map_congr_left; intro i _; simp [List.getElem?_map]
  rw [this, hC, List.map_map, List.map_map]; rfl
theorem q_fst_at {ws ws' : va_W} (h : ws'.map (·.1) = ws.map (·.1)) {k : Nat} {q : Nat × va_E} (hk : ws'[k]? = some q) : ∃ p, ws[k]? = some p ∧ p.1 = q.1 := by
  have e1 : (ws'.map (·.1))[k]? = some q.1 := by rw [List.getElem?_map, hk]; rfl
  rw [h, List.getElem?_map] at e1
  cases hw : ws[k]? with
  | none => rw [hw] at e1; simp at e1
  | some p => rw [hw] at e1; exact ⟨p, rfl, by simpa using e1⟩
/-- a callee has written the cells at the places 'is' and made the cells wn -/
theorem q_joinN {A0 : Nat → Prop} {D : va_G} {cl : List vw_C} {ws wc w1 wn ws' : va_W} {H H1 : Heap} (is : List Nat) (hP : va_P D cl ws H) (hD : va_D A0 ws) (hC : is.map (fun i => ws[i]?) = wc.map some) (hfst : w1.map (·.1) = wc.map (·.1))
    (hk : ∀ q : Nat, q < H.size → ¬ va_A wc H.size q → H1[q]? = H[q]?) (hF : ∀ q, va_A wc H.size q → A0 q) (hP1 : va_P D cl (w1 ++ wn) H1) (hD1 : va_D (va_A wc H.size) (w1 ++ wn)) (he : q_sets ws is w1 = ws') : va_P D cl (ws' ++ wn) H1 ∧ va_D A0 (ws' ++ wn) := by
  obtain ⟨hPa, hDa⟩ := q_join is hP hD hC hfst hk (q_left hP1) he
  have hf : ws'.map (·.1) = ws.map (·.1) := by rw [← he]; exact q_joinF is hC hfst
  refine ⟨hPa.app (q_right hP1), ?_⟩
  have hn : ∀ q ∈ wn, A0 q.1 ∧ H.size ≤ q.1 := by
    intro q hq
    have hA := q_memD hD1 q (List.mem_append_right _ hq)
    refine ⟨hF _ hA, ?_⟩
    rcases hA with ⟨j, e, hj⟩ | h
    · exfalso
      have m1 : q.1 ∈ wc.map (·.1) := List.mem_map.mpr ⟨(q.1, e), List.mem_of_getElem? hj, rfl⟩
      rw [← hfst] at m1
      have hnd := q_nodD hD1
      rw [List.map_append] at hnd
      exact (List.nodup_append.mp hnd).2.2 q.1 m1 q.1 (List.mem_map.mpr ⟨q, hq, rfl⟩) rfl
    · exact h
  refine q_Dof ?_ (fun q hq => (List.mem_append.mp hq).elim (q_memD hDa q) (fun h => (hn q h).1))
  rw [List.map_append]
  refine List.nodup_append.mpr ⟨q_nodD hDa, ?_, ?_⟩
  · have hnd := q_nodD hD1
    rw [List.map_append] at hnd
    exact (List.nodup_append.mp hnd).2.1
  · intro x hx y hy e
    obtain ⟨q, hq, hq1⟩ := List.mem_map.mp hx
    obtain ⟨r, hr, hr1⟩ := List.mem_map.mp hy
    obtain ⟨k, hk2⟩ := List.mem_iff_getElem?.mp hq
    obtain ⟨p, hp, hp1⟩ := q_fst_at hf hk2
    have h1 := va_at.lt (hP k p hp)
    have h2 := (hn r hr).2
    omega
/-- the same, with a tail behind both that the callee has written too -/
theorem q_joinT {A0 : Nat → Prop} {D : va_G} {cl : List vw_C} {X T cx cx' T' X' : va_W} {H H1 : Heap} (is : List Nat) (hP : va_P D cl (X ++ T) H) (hD : va_D A0 (X ++ T)) (hC : is.map (fun i => X[i]?) = cx.map some) (hfst : cx'.map (·.1) = cx.map (·.1)) (hT : T'.map (·.1) = T.map (·.1))
    (hk : ∀ q : Nat, q < H.size → ¬ va_A (cx ++ T) H.size q → H1[q]? = H[q]?) (hP1 : va_P D cl (cx' ++ T') H1) (he : q_sets X is cx' = X') : va_P D cl (X' ++ T') H1 ∧ va_D A0 (X' ++ T') := by
  subst he
  have hlen : is.length = cx'.length := by
    have := congrArg List.length hC
    have h2 := congrArg List.length hfst
    simp at this h2
    omega
  refine ⟨q_Pof (fun q hq => ?_), q_Dfst (by rw [List.map_append, List.map_append, q_joinF is hC hfst, hT]) hD⟩
  rcases List.mem_append.mp hq with hq | hq
  · obtain ⟨k, hkq⟩ := List.mem_iff_getElem?.mp hq
    rcases q_sets_mem is cx' X hlen k q hkq with h | ⟨h1, h2⟩
    · exact q_atmem hP1 (List.mem_append_left _ h)
    · have hkl : k < X.length := (List.getElem?_eq_some_iff.mp h2).1
      have h3 : (X ++ T)[k]? = some q := by rw [List.getElem?_append_left hkl]; exact h2
      refine va_at.kept (hP k q h3) (hk q.1 (va_at.lt (hP k q h3)) ?_)
      rintro (⟨j, e, hj⟩ | hsz)
      · by_cases hjl : j < cx.length
        · rw [List.getElem?_append_left hjl] at hj
          have hj2 : (cx.map some)[j]? = some (some (q.1, e)) := by rw [List.getElem?_map, hj]; rfl
          rw [← hC, List.getElem?_map] at hj2
          cases hij : is[j]? with
          | none => rw [hij] at hj2; simp at hj2
          | some i =>
            rw [hij] at hj2
            have hj3 : X[i]? = some (q.1, e) := by simpa using hj2
            have hil : i < X.length := (List.getElem?_eq_some_iff.mp hj3).1
            have := hD.1 k i q (q.1, e) h3 (by rw [List.getElem?_append_left hil]; exact hj3) rfl
            exact h1 (by rw [this]; exact List.mem_of_getElem? hij)
        · rw [List.getElem?_append_right (by omega)] at hj
          have hj3 : (X ++ T)[X.length + (j - cx.length)]? = some (q.1, e) := by rw [List.getElem?_append_right (by omega), Nat.add_sub_cancel_left]; exact hj
          have := hD.1 k _ q (q.1, e) h3 hj3 rfl
          omega
      · exact absurd (va_at.lt (hP k q h3)) (Nat.not_lt.mpr hsz)
  · exact q_atmem hP1 (List.mem_append_right _ hq)
theorem q_freeT {A0 : Nat → Prop} {X T cx : va_W} {H0 H : Heap} {locs : List Loc} (hD : va_D A0 (X ++ T)) (hS : va_S A0 H0 H locs) (hA : ∀ q, H0.size ≤ q → A0 q) (is : List Nat) (hC : is.map (fun i => X[i]?) = cx.map some) : ∀ q, va_A (cx ++ T) H.size q → A0 q := by
  rintro q (⟨j, e, hj⟩ | h)
  · by_cases hjl : j < cx.length
    · rw [List.getElem?_append_left hjl] at hj
      have hj2 : (cx.map some)[j]? = some (some (q, e)) := by rw [List.getElem?_map, hj]; rfl
      rw [← hC, List.getElem?_map] at hj2
      cases hij : is[j]? with
      | none => rw [hij] at hj2; simp at hj2
      | some i =>
        rw [hij] at hj2
        have hj3 : X[i]? = some (q, e) := by simpa using hj2
        exact q_memD hD (q, e) (List.mem_append_left _ (List.mem_of_getElem? hj3))
    · rw [List.getElem?_append_right (by omega)] at hj
      exact q_memD hD (q, e) (List.mem_append_right _ (List.mem_of_getElem? hj))
  · exact hA q (Nat.le_trans hS.1 h)
/-- cells that nobody has written, in a later heap -/
theorem q_keepP {D : va_G} {cl : List vw_C} {ws : va_W} {H H1 : Heap} {A : Nat → Prop} (hP : va_P D cl ws H) (hk : ∀ q : Nat, q < H.size → ¬ A q → H1[q]? = H[q]?) (hA : ∀ q, A q → H.size ≤ q) : va_P D cl ws H1 :=
  va_P.kept hP (fun k q hq => hk q.1 (va_at.lt (hP k q hq)) (fun h => absurd (va_at.lt (hP k q hq)) (Nat.not_lt.mpr (hA _ h))))
theorem q_A0 {sz : Nat} : ∀ q, va_A [] sz q → sz ≤ q := by
  rintro q (⟨j, e, hj⟩ | h)
  · simp at hj
  · exact h
/-! a pool that is written -/
theorem q_gR {X Z : va_W} {i : Nat} (h : X.length ≤ i) : (X ++ Z)[i]? = Z[i - X.length]? := List.getElem?_append_right h
theorem q_gL {X Z : va_W} {i : Nat} (h : i < X.length) : (X ++ Z)[i]? = X[i]? := List.getElem?_append_left h
theorem q_lm {F : Nat → Nat × va_E} {n : Nat} : ((List.range n).map F).length = n := by rw [List.length_map, List.length_range]
theorem q_setm {X Y : va_W} {F G : Nat → Nat × va_E} {n m k : Nat} {v : Nat × va_E} (hm : X.length = m) (hk : k < n) (hv : G k = v) (ho : ∀ j, j ≠ k → G j = F j) : (X ++ ((List.range n).map F ++ Y)).set (m + k) v = X ++ ((List.range n).map G ++ Y) := by
  subst hm
  have lF := q_lm (F := F) (n := n)
  have lG := q_lm (F := G) (n := n)
  apply List.ext_getElem?
  intro i
  by_cases e : X.length + k = i
  · subst e
    rw [List.getElem?_set_self (by rw [List.length_append, List.length_append, lF]; omega), q_gR (X := X) (Z := (List.range n).map G ++ Y) (by omega), Nat.add_sub_cancel_left, q_gL (X := (List.range n).map G) (by omega), List.getElem?_map, List.getElem?_range hk]
    exact congrArg some hv.symm
  · rw [List.getElem?_set_ne e]
    by_cases h1 : i < X.length
    · rw [q_gL (X := X) (Z := (List.range n).map F ++ Y) h1, q_gL (X := X) (Z := (List.range n).map G ++ Y) h1]
    · rw [q_gR (X := X) (Z := (List.range n).map F ++ Y) (by omega), q_gR (X := X) (Z := (List.range n).map G ++ Y) (by omega)]
      by_cases h2 : i - X.length < n
      · rw [q_gL (X := (List.range n).map F) (Z := Y) (by omega), q_gL (X := (List.range n).map G) (Z := Y) (by omega), List.getElem?_map, List.getElem?_map, List.getElem?_range h2]
        exact congrArg some (ho _ (by omega)).symm
      · rw [q_gR (X := (List.range n).map F) (Z := Y) (by omega), q_gR (X := (List.range n).map G) (Z := Y) (by omega), lF, lG]
section EWs
variable {X Y : va_W} {ea wa : Nat → Nat} {pf : Nat → Option Nat} {cn dp oc : Nat → Nat} {ic lf pt : Nat → Int32} {n : Nat}
theorem EW_ix (m : Nat) (hm : X.length = m) (k : Nat) (h : k < n) : (X ++ (EW ea wa pf cn dp oc ic lf pt n ++ Y))[m + k]? = some (ea k, .inr (0, [.ref (wa k), va_rf (pf k), .int (nI (cn k)), .int (nI (dp k)), .int (nI (oc k)), .int (ic k), .int (lf k), .int (pt k)])) := by
  unfold EW
  rw [List.getElem?_append_right (by omega), List.getElem?_append_left (by simp; omega), show m + k - X.length = k by omega, List.getElem?_map, List.getElem?_range h]; rfl
theorem EW_oc (m : Nat) (hm : X.length = m) (k : Nat) (h : k < n) (v : Nat) : (X ++ (EW ea wa pf cn dp oc ic lf pt n ++ Y)).set (m + k) (ea k, .inr (0, [.ref (wa k), va_rf (pf k), .int (nI (cn k)), .int (nI (dp k)), .int (nI v), .int (ic k), .int (lf k), .int (pt k)])) = X ++ (EW ea wa pf cn dp (va_up oc k v) ic lf pt n ++ Y) :=
  q_setm hm h (by rw [q_ups]) (fun j hj => by rw [q_upn hj])
theorem EW_ic (m : Nat) (hm : X.length = m) (k : Nat) (h : k < n) (v : Int32) : (X ++ (EW ea wa pf cn dp oc ic lf pt n ++ Y)).set (m + k) (ea k, .inr (0, [.ref (wa k), va_rf (pf k), .int (nI (cn k)), .int (nI (dp k)), .int (nI (oc k)), .int v, .int (lf k), .int (pt k)])) = X ++ (EW ea wa pf cn dp oc (va_up ic k v) lf pt n ++ Y) :=
  q_setm hm h (by rw [q_ups]) (fun j hj => by rw [q_upn hj])
theorem EW_lf (m : Nat) (hm : X.length = m) (k : Nat) (h : k < n) (v : Int32) : (X ++ (EW ea wa pf cn dp oc ic lf pt n ++ Y)).set (m + k) (ea k, .inr (0, [.ref (wa k), va_rf (pf k), .int (nI (cn k)), .int (nI (dp k)), .int (nI (oc k)), .int (ic k), .int v, .int (pt k)])) = X ++ (EW ea wa pf cn dp oc ic (va_up lf k v) pt n ++ Y) :=
  q_setm hm h (by rw [q_ups]) (fun j hj => by rw [q_upn hj])
theorem EW_pt (m : Nat) (hm : X.length = m) (k : Nat) (h : k < n) (v : Int32) : (X ++ (EW ea wa pf cn dp oc ic lf pt n ++ Y)).set (m + k) (ea k, .inr (0, [.ref (wa k), va_rf (pf k), .int (nI (cn k)), .int (nI (dp k)), .int (nI (oc k)), .int (ic k), .int (lf k), .int v])) = X ++ (EW ea wa pf cn dp oc ic lf (va_up pt k v) n ++ Y) :=
  q_setm hm h (by rw [q_ups]) (fun j hj => by rw [q_upn hj])
theorem EW_cg {ea' wa' : Nat → Nat} {pf' : Nat → Option Nat} {cn' dp' oc' : Nat → Nat} {ic' lf' pt' : Nat → Int32} (h : ∀ k, k < n → ea' k = ea k ∧ wa' k = wa k ∧ pf' k = pf k ∧ cn' k = cn k ∧ dp' k = dp k ∧ oc' k = oc k ∧ ic' k = ic k ∧ lf' k = lf k ∧ pt' k = pt k) : EW ea' wa' pf' cn' dp' oc' ic' lf' pt' n = EW ea wa pf cn dp oc ic lf pt n := by
  unfold EW
  apply List.map_congr_left
  intro k hk
  obtain ⟨h1, h2, h3, h4, h5, h6, h7, h8, h9⟩ := h k (List.mem_range.mp hk)
  rw [h1, h2, h3, h4, h5, h6, h7, h8, h9]
theorem WW_cg {wd wa' wd' : Nat → Nat} (h : ∀ k, k < n → wa' k = wa k ∧ wd' k = wd k) : WW wa' wd' n = WW wa wd n := by
  unfold WW
  apply List.map_congr_left
  intro k hk
  obtain ⟨h1, h2⟩ := h k (List.mem_range.mp hk)
  rw [h1, h2]
theorem EW_up {e9 w9 : Nat} {p9 : Option Nat} {c9 d9 o9 : Nat} {i9 l9 t9 : Int32} : EW (va_up ea n e9) (va_up wa n w9) (va_up pf n p9) (va_up cn n c9) (va_up dp n d9) (va_up oc n o9) (va_up ic n i9) (va_up lf n l9) (va_up pt n t9) (n + 1) = EW ea wa pf cn dp oc ic lf pt n ++ [(e9, .inr (0, [.ref w9, va_rf p9, .int (nI c9), .int (nI d9), .int (nI o9), .int i9, .int l9, .int t9]))] := by
  have h : EW (va_up ea n e9) (va_up wa n w9) (va_up pf n p9) (va_up cn n c9) (va_up dp n d9) (va_up oc n o9) (va_up ic n i9) (va_up lf n l9) (va_up pt n t9) n = EW ea wa pf cn dp oc ic lf pt n :=
    EW_cg (fun k hk => ⟨q_upn (by omega), q_upn (by omega), q_upn (by omega), q_upn (by omega), q_upn (by omega), q_upn (by omega), q_upn (by omega), q_upn (by omega), q_upn (by omega)⟩)
  rw [← h]
  unfold EW
  rw [List.range_succ, List.map_append]
  simp only [List.map_cons, List.map_nil, q_ups]
theorem WW_up {wd : Nat → Nat} {w9 v9 : Nat} : WW (va_up wa n w9) (va_up wd n v9) (n + 1) = WW wa wd n ++ [(w9, .inr (7, [.long (lN v9), .int (nI (wl v9)), .long (lN (al v9))]))] := by
  have h : WW (va_up wa n w9) (va_up wd n v9) n = WW wa wd n := WW_cg (fun k hk => ⟨q_upn (by omega), q_upn (by omega)⟩)
  rw [← h]
  unfold WW
  rw [List.range_succ, List.map_append]
  simp only [List.map_cons, List.map_nil, q_ups]
/-- the pool with one more -/
theorem q_grow {wd : Nat → Nat} {e9 w9 v9 : Nat} {p9 : Option Nat} {c9 d9 o9 : Nat} {i9 l9 t9 : Int32} : List.Perm ((X ++ [(e9, .inr (0, [.ref w9, va_rf p9, .int (nI c9), .int (nI d9), .int (nI o9), .int i9, .int l9, .int t9])), (w9, .inr (7, [.long (lN v9), .int (nI (wl v9)), .long (lN (al v9))]))]) ++ (EW ea wa pf cn dp oc ic lf pt n ++ WW wa wd n))
    (X ++ (EW (va_up ea n e9) (va_up wa n w9) (va_up pf n p9) (va_up cn n c9) (va_up dp n d9) (va_up oc n o9) (va_up ic n i9) (va_up lf n l9) (va_up pt n t9) (n + 1) ++ WW (va_up wa n w9) (va_up wd n v9) (n + 1))) := by
  rw [EW_up, WW_up, List.append_assoc]
  refine List.Perm.append_left X ?_
  generalize EW ea wa pf cn dp oc ic lf pt n = E
  generalize WW wa wd n = V
  generalize (e9, (Sum.inr (0, [Value.ref w9, va_rf p9, Value.int (nI c9), Value.int (nI d9), Value.int (nI o9), Value.int i9, Value.int l9, Value.int t9]) : va_E)) = y
  generalize (w9, (Sum.inr (7, [Value.long (lN v9), Value.int (nI (wl v9)), Value.long (lN (al v9))]) : va_E)) = z
  show List.Perm ([y] ++ ([z] ++ (E ++ V))) _
  have h1 : List.Perm ([z] ++ (E ++ V)) (E ++ (V ++ [z])) := by
    rw [← List.append_assoc E V [z]]
    exact List.perm_append_comm
  have h2 : List.Perm ([y] ++ (E ++ (V ++ [z]))) (E ++ [y] ++ (V ++ [z])) := by
    rw [← List.append_assoc]
    exact List.Perm.append_right _ List.perm_append_comm
  exact (List.Perm.append_left [y] h1).trans h2
end EWs
theorem q_nrf {C : String} {x : Option Nat} : narrow (.object C) (va_rf x) = va_rf x := by cases x <;> rfl
theorem q_frf {C : String} {x : Option Nat} : fits (.object C) (va_rf x) = true := by cases x <;> rfl
/-! what throwing asks of the tables -/
def q_IA : String := "java/lang/IllegalArgumentException"
def q_IS : String := "java/lang/IllegalStateException"
def q_IO : String := "java/lang/IndexOutOfBoundsException"
def q_nms : List String := ["java/lang/RuntimeException", "java/lang/Exception"]
def q_dcl : List MethodName := [Bundle.initS "java/lang/RuntimeException", Bundle.initS "java/lang/Exception", Bundle.initS Bundle.tN]
def q_cst : List (String × String) := [(q_IA, q_IA), (q_IS, q_IS), (q_IO, q_IO)]
def q_str : List (Nat × String) := [(184, "the number is no word"), (190, "an argument is out of range"), (194, "there is no such place"), (67, "as many words as there may be have been added"), (79, "the count would be too high"), (89, "the word is not known")]
def qT (U : State) : Prop := (∀ x ∈ q_dcl, va_Nw (.declares x) U) ∧ (∀ w ∈ q_cst, va_Nw (.castable w.1 w.2) U) ∧ (∀ w ∈ q_str, ∃ a, vk_R RX9 w.1 w.2 a U) ∧ va_AO RX0 U ∧ va_Nc q_IS q_IA U ∧ va_Nc q_IO q_IA U
theorem qT_warm {s U : State} (hW : s.WarmedH U.vm) (h : qT s) : qT U := ⟨fun x hx => va_Nw.warmD hW (h.1 x hx), fun w hw => va_Nw.warmC hW (h.2.1 w hw), fun w hw => (h.2.2.1 w hw).elim (fun a ha => ⟨a, vk_R.warm hW ha⟩), va_AO.moved hW.alike h.2.2.2.1, va_Nc.moved hW.alike h.2.2.2.2.1, va_Nc.moved hW.alike h.2.2.2.2.2⟩
theorem qT_vm {s U : State} (hv : s.vm = U.vm) (h : qT s) : qT U := ⟨fun x hx => va_Nw.same rfl hv (h.1 x hx), fun w hw => va_Nw.same rfl hv (h.2.1 w hw), fun w hw => (h.2.2.1 w hw).elim (fun a ha => ⟨a, vk_R.same hv.symm ha⟩), va_AO.moved (u := s) (by rw [← hv]; exact Vm.Alike.refl s.vm) h.2.2.2.1, va_Nc.moved (u := s) (by rw [← hv]; exact Vm.Alike.refl s.vm) h.2.2.2.2.1, va_Nc.moved (u := s) (by rw [← hv]; exact Vm.Alike.refl s.vm) h.2.2.2.2.2⟩
abbrev qWx (D : va_G) (sz : Nat) (ro rw : va_W) (tys : List (ClassId × FieldType)) : State → Prop := fun U => U.heap.size = sz ∧ va_P D vwCl ro U.heap ∧ va_P D vwCl rw U.heap ∧ va_K D vwCl tys U ∧ qN U ∧ qZ (va_A rw sz) U U.heap ∧ qT U
theorem qWx_blind {D : va_G} {sz : Nat} {av : List Value} {ro rw : va_W} {tys : List (ClassId × FieldType)} : FrameBlind (va_Pc av (qWx D sz ro rw tys)) := fun a U g mk q => ⟨q.1, q.2.1, q.2.2.1, q.2.2.2.1, va_K.moved (u := U) (U := U.calling g mk a) (Vm.Alike.refl U.vm) q.2.2.2.2.1, qN_vm (s := U) (U := U.calling g mk a) rfl q.2.2.2.2.2.1, qZ_moved (u := U) (U := U.calling g mk a) (Vm.Alike.refl U.vm) q.2.2.2.2.2.2.1, qT_vm (s := U) (U := U.calling g mk a) rfl q.2.2.2.2.2.2.2⟩
theorem qWx_of {D : va_G} {as : List Value} {ro rw : va_W} {tys : List (ClassId × FieldType)} {s : State} {H : Heap} (hR : va_P D vwCl ro H) (hP : va_P D vwCl rw H) (hK : va_K D vwCl tys s) (hN : qN s) (hZ : qZ (va_A rw H.size) s H) (hT : qT s) : ∀ U : State, U.heap = H → s.WarmedH U.vm → va_Pc as (qWx D H.size ro rw tys) as.toArray U := fun U hU hW => ⟨rfl, by rw [hU], by rw [hU]; exact hR, by rw [hU]; exact hP, va_K.moved hW.alike hK, qN_warm hW hN, by rw [hU]; exact qZ_moved hW.alike hZ, qT_warm hW hT⟩
theorem q_bad {args : Array Value} {s : State} {E : String} {own : String} {ic : Nat} (hT : qT s) (hE : (E, E) ∈ q_cst) (h1 : ∀ w ∈ (vx_atS own ic E q_nms).filter goodWord, w.before args s = true) (h2 : ∀ w ∈ (vx_atS own ic E q_nms).filter (fun w => !goodWord w), w ∈ (Cond.castable E E :: q_dcl.map Cond.declares)) : ∀ w ∈ vx_atS own ic E q_nms, w.before args s = true :=
  vx_hat h1 h2 (fun w hw => by
    rcases List.mem_cons.mp hw with e | h
    · rw [e]; exact va_Nw.use rfl (hT.2.1 (E, E) hE)
    · obtain ⟨x, hx, e⟩ := List.mem_map.mp h
      rw [← e]; exact va_Nw.use rfl (hT.1 x hx))
theorem q_kyf : (va_up (va_up (va_up (va_up (va_up (va_up (va_up (va_up (va_up (va_up (va_up (va_up (va_up (va_up (va_up (va_up (va_up (va_up (va_up (va_up (va_up (va_up (va_up (va_up (va_up (va_up (va_up (fun _ => 0) 0 0) 1 10) 2 24) 3 22) 4 12) 5 2) 6 13) 7 14) 8 15) 9 7) 10 16) 11 17) 12 18) 13 26) 14 25) 15 8) 16 9) 17 0) 18 3) 19 11) 20 4) 21 6) 22 23) 23 1) 24 21) 25 5) 26 20) = kyf := by
  funext j
  match j with
  | 0 => rfl
  | 1 => rfl
  | 2 => rfl
  | 3 => rfl
  | 4 => rfl
  | 5 => rfl
  | 6 => rfl
  | 7 => rfl
  | 8 => rfl
  | 9 => rfl
  | 10 => rfl
  | 11 => rfl
  | 12 => rfl
  | 13 => rfl
  | 14 => rfl
  | 15 => rfl
  | 16 => rfl
  | 17 => rfl
  | 18 => rfl
  | 19 => rfl
  | 20 => rfl
  | 21 => rfl
  | 22 => rfl
  | 23 => rfl
  | 24 => rfl
  | 25 => rfl
  | 26 => rfl
  | n + 27 =>
    repeat rw [q_upn (by omega)]
    rfl
