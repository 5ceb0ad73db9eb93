/-! own rows: worlds of read cells and of written cells, loops, cuts, whole numbers -/
theorem q_atmem {D : va_G} {cl : List vw_C} {ws : va_W} {H : Heap} (h : va_P D cl ws H) {q : Nat × va_E} (hq : q ∈ ws) : va_at D cl q H := by
  obtain ⟨k, hk⟩ := List.mem_iff_getElem?.mp hq
  exact h k q hk
theorem q_Pof {D : va_G} {cl : List vw_C} {ws : va_W} {H : Heap} (h : ∀ q ∈ ws, va_at D cl q H) : va_P D cl ws H := fun k q hk => h q (List.mem_of_getElem? hk)
/-- the read cells, seen in a later heap -/
theorem q_ro {D : va_G} {cl : List vw_C} {RO : va_W} {H0 H : Heap} {A : Nat → Prop} {locs : List Loc} (hR : va_P D cl RO H0) (hna : ∀ q ∈ RO, ¬ A q.1) (hS : va_S A H0 H locs) : va_P D cl RO H :=
  va_P.kept hR (fun k q hk => hS.2.1 q.1 (va_at.lt (hR k q hk)) (hna q (List.mem_of_getElem? hk)))
theorem q_na {D : va_G} {cl : List vw_C} {RW RO : va_W} {H : Heap} {l1 l2 : List Nat} (hnd : (l1 ++ l2).Nodup) (h1 : RW.map (·.1) = l1) (h2 : RO.map (·.1) = l2) (hR : va_P D cl RO H) : ∀ q ∈ RO, ¬ va_A RW H.size q.1 := by
  intro q hq hA
  rcases hA with ⟨j, e, hj⟩ | hsz
  · have m1 : q.1 ∈ l1 := by rw [← h1]; exact List.mem_map.mpr ⟨(q.1, e), List.mem_of_getElem? hj, rfl⟩
    have m2 : q.1 ∈ l2 := by rw [← h2]; exact List.mem_map.mpr ⟨q, hq, rfl⟩
    exact (List.nodup_append.mp hnd).2.2 q.1 m1 q.1 m2 rfl
  · exact absurd (va_at.lt (q_atmem hR hq)) (Nat.not_lt.mpr hsz)
theorem q_Dof {ws : va_W} {A : Nat → Prop} (hnd : (ws.map (·.1)).Nodup) (hA : ∀ q ∈ ws, A q.1) : va_D A ws := by
  refine ⟨fun i j p q hi hj h => ?_, fun k q hk => hA q (List.mem_of_getElem? hk)⟩
  have e1 : (ws.map (·.1))[i]? = some p.1 := by rw [List.getElem?_map, hi]; rfl
  have e2 : (ws.map (·.1))[j]? = some q.1 := by rw [List.getElem?_map, hj]; rfl
  have hlt : i < (ws.map (·.1)).length := (List.getElem?_eq_some_iff.mp e1).1
  exact (List.getElem?_inj hlt hnd).mp (by rw [e1, e2, h])
theorem q_D {RW : va_W} {l1 l2 : List Nat} {sz : Nat} (hnd : (l1 ++ l2).Nodup) (h1 : RW.map (·.1) = l1) : va_D (va_A RW sz) RW :=
  q_Dof (by rw [h1]; exact (List.nodup_append.mp hnd).1) (fun q hq => by
    obtain ⟨k, hk⟩ := List.mem_iff_getElem?.mp hq
    exact Or.inl ⟨k, q.2, hk⟩)
theorem q_Dfst {A : Nat → Prop} {ws ws' : va_W} (h : ws'.map (·.1) = ws.map (·.1)) (hD : va_D A ws) : va_D A ws' := by
  have key : ∀ (k : Nat) (q : Nat × va_E), ws'[k]? = some q → ∃ p, ws[k]? = some p ∧ p.1 = q.1 := by
    intro k q hk
    have e1 : (ws'.map (·.1))[k]? = some q.1 := by rw [List.getElem?_map, hk]; rfl
    rw [h, List.getElem?_map] at e1
    cases hw : ws[k]? with
    | none => rw [hw] at e1; simp at e1
    | some p => rw [hw] at e1; exact ⟨p, rfl, by simpa using e1⟩
  refine ⟨fun i j p q hi hj e => ?_, fun k q hk => ?_⟩
  · obtain ⟨p', h1, h2⟩ := key i p hi
    obtain ⟨q', h3, h4⟩ := key j q hj
    exact hD.1 i j p' q' h1 h3 (by rw [h2, h4, e])
  · obtain ⟨p', h1, h2⟩ := key k q hk
    rw [← h2]; exact hD.2 k p' h1
def q_sets : va_W → List Nat → va_W → va_W
  | ws, i :: is, c :: cs => q_sets (ws.set i c) is cs
  | ws, _, _ => ws
theorem q_sets_mem : ∀ (is : List Nat) (w1 ws : va_W), is.length = w1.length → ∀ (k : Nat) (q : Nat × va_E), (q_sets ws is w1)[k]? = some q → q ∈ w1 ∨ (k ∉ is ∧ ws[k]? = some q) := by
  intro is
  induction is with
  | nil => intro w1 ws hl k q h; cases w1 with
    | nil => exact Or.inr ⟨List.not_mem_nil, h⟩
    | cons c cs => simp at hl
  | cons i is ih =>
    intro w1 ws hl k q h
    cases w1 with
    | nil => simp at hl
    | cons c cs =>
      have hl' : is.length = cs.length := by simpa using hl
      rcases ih cs (ws.set i c) hl' k q h with h1 | ⟨h1, h2⟩
      · exact Or.inl (List.mem_cons_of_mem _ h1)
      · by_cases e : i = k
        · subst e
          rw [List.getElem?_set] at h2
          simp at h2
          exact Or.inl (by rw [← h2.2]; exact List.mem_cons_self)
        · rw [List.getElem?_set_ne e] at h2
          exact Or.inr ⟨fun hm => (List.mem_cons.mp hm).elim (fun e2 => e e2.symm) h1, h2⟩
theorem q_sets_fst : ∀ (is : List Nat) (w1 ws : va_W), (is.map (fun i => (ws.map (·.1))[i]?)) = (w1.map (·.1)).map some → (q_sets ws is w1).map (·.1) = ws.map (·.1) := by
  intro is
  induction is with
  | nil => intro w1 ws _; cases w1 <;> rfl
  | cons i is ih =>
    intro w1 ws hm
    cases w1 with
    | nil => rfl
    | cons c cs =>
      simp only [List.map_cons, List.cons.injEq] at hm
      have hset : (ws.set i c).map (·.1) = ws.map (·.1) := by
        apply List.ext_getElem?
        intro k
        by_cases e : i = k
        · subst e
          rw [hm.1, List.getElem?_map, List.getElem?_set]
          have hi : i < ws.length := by
            have := (List.getElem?_eq_some_iff.mp hm.1).1
            simpa using this
          simp [hi]
        · rw [List.getElem?_map, List.getElem?_map, List.getElem?_set_ne e]
      show (q_sets (ws.set i c) is cs).map (·.1) = _
      rw [ih cs (ws.set i c) (by rw [hset]; exact hm.2), hset]
/-- a callee has written the cells at the places 'is': they are put back in place -/
theorem q_join {A0 : Nat → Prop} {D : va_G} {cl : List vw_C} {ws wc w1 ws' : va_W} {H H1 : Heap} (is : List Nat) (hP : va_P D cl ws H) (hD : va_D A0 ws) (hC : is.map (fun i => ws[i]?) = wc.map some) (hfst : w1.map (·.1) = wc.map (·.1))
    (hk : ∀ q : Nat, q < H.size → ¬ va_A wc H.size q → H1[q]? = H[q]?) (hP1 : va_P D cl w1 H1) (he : q_sets ws is w1 = ws') : va_P D cl ws' H1 ∧ va_D A0 ws' := by
  subst he
  have hlen : is.length = w1.length := by
    have := congrArg List.length hC
    have h2 := congrArg List.length hfst
    simp at this h2
    omega
  refine ⟨fun k q hkq => ?_, q_Dfst (q_sets_fst is w1 ws ?_) hD⟩
  · rcases q_sets_mem is w1 ws hlen k q hkq with h | ⟨h1, h2⟩
    · exact q_atmem hP1 h
    · refine va_at.kept (hP k q h2) (hk q.1 (va_at.lt (hP k q h2)) ?_)
      rintro (⟨j, e, hj⟩ | hsz)
      · have hj2 : (wc.map some)[j]? = some (some (q.1, e)) := by rw [List.getElem?_map, hj]; rfl
        rw [← hC, List.getElem?_map] at hj2
        cases hij : is[j]? with
        | none => rw [hij] at hj2; simp at hj2
        | some i =>
          rw [hij] at hj2
          have hj3 : ws[i]? = some (q.1, e) := by simpa using hj2
          have := hD.1 k i q (q.1, e) h2 hj3 rfl
          exact h1 (by rw [this]; exact List.mem_of_getElem? hij)
      · exact absurd (va_at.lt (hP k q h2)) (Nat.not_lt.mpr hsz)
  · rw [hfst]
    have : is.map (fun i => (ws.map (·.1))[i]?) = (is.map (fun i => ws[i]?)).map (Option.map (·.1)) := by
      rw [List.map_map]; apply List.map_congr_left; intro i _; simp [List.getElem?_map]
    rw [this, hC, List.map_map, List.map_map]; rfl
/-- contracts' starts -/
abbrev qP (D : va_G) (ro : va_W) (tys : List (ClassId × FieldType)) : State → Prop := fun U => va_P D vwCl ro U.heap ∧ va_K D vwCl tys U ∧ qN U
abbrev qW (D : va_G) (sz : Nat) (ro rw : va_W) (tys : List (ClassId × FieldType)) : State → Prop := fun U => U.heap.size = sz ∧ va_P D vwCl ro U.heap ∧ va_P D vwCl rw U.heap ∧ va_K D vwCl tys U ∧ qN U
theorem qP_blind {D : va_G} {av : List Value} {ro : va_W} {tys : List (ClassId × FieldType)} : FrameBlind (va_Pc av (qP D ro tys)) := fun a U g mk q => ⟨q.1, q.2.1, va_K.moved (u := U) (U := U.calling g mk a) (Vm.Alike.refl U.vm) q.2.2.1, qN_vm (s := U) (U := U.calling g mk a) rfl q.2.2.2⟩
theorem qW_blind {D : va_G} {sz : Nat} {av : List Value} {ro rw : va_W} {tys : List (ClassId × FieldType)} : FrameBlind (va_Pc av (qW D sz ro rw tys)) := fun a U g mk q => ⟨q.1, q.2.1, q.2.2.1, q.2.2.2.1, va_K.moved (u := U) (U := U.calling g mk a) (Vm.Alike.refl U.vm) q.2.2.2.2.1, qN_vm (s := U) (U := U.calling g mk a) rfl q.2.2.2.2.2⟩
theorem qP_of {D : va_G} {as : List Value} {ro : va_W} {tys : List (ClassId × FieldType)} {s : State} {H : Heap} (hR : va_P D vwCl ro H) (hK : va_K D vwCl tys s) (hN : qN s) : ∀ U : State, U.heap = H → s.WarmedH U.vm → va_Pc as (qP D ro tys) as.toArray U := fun U hU hW => ⟨rfl, by rw [hU]; exact hR, va_K.moved hW.alike hK, qN_warm hW hN⟩
theorem qW_of {D : va_G} {as : List Value} {ro rw : va_W} {tys : List (ClassId × FieldType)} {s : State} {H : Heap} (hR : va_P D vwCl ro H) (hP : va_P D vwCl rw H) (hK : va_K D vwCl tys s) (hN : qN s) : ∀ U : State, U.heap = H → s.WarmedH U.vm → va_Pc as (qW D H.size ro rw tys) as.toArray U := fun U hU hW => ⟨rfl, by rw [hU], by rw [hU]; exact hR, by rw [hU]; exact hP, va_K.moved hW.alike hK, qN_warm hW hN⟩
theorem q_nds {l l' : List Nat} (h : l.Nodup) (ks : List Nat) (hn : va_nd ks = true) (he : ks.map (fun i => l[i]?) = l'.map some) : l'.Nodup := by
  have hD : va_D (fun _ => True) (l.map (fun a => ((a, .inr (0, [])) : Nat × va_E))) := q_Dof (by rw [List.map_map]; simpa [Function.comp_def] using h) (fun _ _ => trivial)
  have h2 : va_D (fun _ => True) (l'.map (fun a => ((a, .inr (0, [])) : Nat × va_E))) := va_D.sub hD ks hn (by
    have : ks.map (fun i => (l.map (fun a => ((a, .inr (0, [])) : Nat × va_E)))[i]?) = (ks.map (fun i => l[i]?)).map (Option.map (fun a => ((a, .inr (0, [])) : Nat × va_E))) := by
      rw [List.map_map]; apply List.map_congr_left; intro i _; simp [List.getElem?_map]
    rw [this, he, List.map_map, List.map_map]; rfl)
  refine List.pairwise_iff_getElem.mpr (fun i j hi hj hij e => ?_)
  have e1 : (l'.map (fun a => ((a, .inr (0, [])) : Nat × va_E)))[i]? = some (l'[i], .inr (0, [])) := by rw [List.getElem?_map, List.getElem?_eq_getElem hi]; rfl
  have e2 : (l'.map (fun a => ((a, .inr (0, [])) : Nat × va_E)))[j]? = some (l'[j], .inr (0, [])) := by rw [List.getElem?_map, List.getElem?_eq_getElem hj]; rfl
  have := h2.1 i j _ _ e1 e2 e
  omega
section QR
variable {p : Program} {l : Launch} {e : Env} {R : Room} {s : State} {m : MethodId} {args : Array Value} {below : List Frame} {meth : Method} {c : Code} {H : Heap} {locs : List Loc} {cells slots : Nat} {Q : State → Prop} {cc : ByteArray} {pc : Nat} {ls : Array Slot} {rest : List Value}
/-- a loop, by a measure -/
theorem q_loop {σ : Type} (I : σ → Heap → List Loc → Array Slot → Prop) (μ : σ → Nat) (x0 : σ) (h0 : I x0 H locs ls) (step : ∀ (x : σ) (H : Heap) (locs : List Loc) (ls : Array Slot), I x H locs ls → (∀ (y : σ) (H : Heap) (locs : List Loc) (ls : Array Slot), I y H locs ls → μ y < μ x → W p l e R s m args below meth c H locs cells slots Q (F0 m pc ls rest)) → W p l e R s m args below meth c H locs cells slots Q (F0 m pc ls rest)) : W p l e R s m args below meth c H locs cells slots Q (F0 m pc ls rest) := by
  have key : ∀ (n : Nat) (x : σ) (H : Heap) (locs : List Loc) (ls : Array Slot), I x H locs ls → μ x < n → W p l e R s m args below meth c H locs cells slots Q (F0 m pc ls rest) := by
    intro n
    induction n with
    | zero => intro x H locs ls _ h; exact absurd h (Nat.not_lt_zero _)
    | succ n ih => intro x H locs ls hI h; exact step x H locs ls hI (fun y H locs ls hJ hy => ih y H locs ls hJ (by omega))
  exact key _ x0 H locs ls h0 (Nat.lt_succ_self _)
/-- a place where roads come together -/
theorem q_cut {g : JFrame} {σ : Type} (pc2 : Nat) (I : σ → Heap → List Loc → Array Slot → List Value → Prop) (k : ∀ (x : σ) (H : Heap) (locs : List Loc) (ls : Array Slot) (st : List Value), I x H locs ls st → W p l e R s m args below meth c H locs cells slots Q (F0 m pc2 ls st)) (h : (∀ (x : σ) (H : Heap) (locs : List Loc) (ls : Array Slot) (st : List Value), I x H locs ls st → W p l e R s m args below meth c H locs cells slots Q (F0 m pc2 ls st)) → W p l e R s m args below meth c H locs cells slots Q g) : W p l e R s m args below meth c H locs cells slots Q g := h k
theorem q_cvi {x y : Int32} (h : x = y) (k : W p l e R s m args below meth c H locs cells slots Q (F0 m pc ls (.int y :: rest))) : W p l e R s m args below meth c H locs cells slots Q (F0 m pc ls (.int x :: rest)) := h ▸ k
theorem q_cvl {x y : Int64} (h : x = y) (k : W p l e R s m args below meth c H locs cells slots Q (F0 m pc ls (.long y :: rest))) : W p l e R s m args below meth c H locs cells slots Q (F0 m pc ls (.long x :: rest)) := h ▸ k
theorem q_cvv {x y : Value} (h : x = y) (k : W p l e R s m args below meth c H locs cells slots Q (F0 m pc ls (y :: rest))) : W p l e R s m args below meth c H locs cells slots Q (F0 m pc ls (x :: rest)) := h ▸ k
theorem q_iadd (hexec : p.tables.exec = Jvm.exec) (hb : c.code = cc) {a b d : Nat} (hdg : decode cc pc = .ok (.iadd, 1)) (h : a + b = d)
    (k : W p l e R s m args below meth c H locs cells slots Q (F0 m (pc + 1) ls (.int (nI d) :: rest))) : W p l e R s m args below meth c H locs cells slots Q (F0 m pc ls (.int (nI b) :: .int (nI a) :: rest)) := by
  refine lv_iadd hexec hb hdg ?_
  rw [nI_add, h]; exact k
theorem q_isub (hexec : p.tables.exec = Jvm.exec) (hb : c.code = cc) {a b d : Nat} (hdg : decode cc pc = .ok (.isub, 1)) (h : b + d = a)
    (k : W p l e R s m args below meth c H locs cells slots Q (F0 m (pc + 1) ls (.int (nI d) :: rest))) : W p l e R s m args below meth c H locs cells slots Q (F0 m pc ls (.int (nI b) :: .int (nI a) :: rest)) := by
  refine lv_isub hexec hb hdg ?_
  rw [pk_sub (by omega), show a - b = d by omega]; exact k
theorem q_imul (hexec : p.tables.exec = Jvm.exec) (hb : c.code = cc) {a b d : Nat} (hdg : decode cc pc = .ok (.imul, 1)) (h : a * b = d)
    (k : W p l e R s m args below meth c H locs cells slots Q (F0 m (pc + 1) ls (.int (nI d) :: rest))) : W p l e R s m args below meth c H locs cells slots Q (F0 m pc ls (.int (nI b) :: .int (nI a) :: rest)) := by
  refine lv_imul hexec hb hdg ?_
  rw [pk_mul, h]; exact k
theorem q_icmp_ge (hexec : p.tables.exec = Jvm.exec) (hb : c.code = cc) {a b : Nat} {off : Int} {tgt : Nat} (hdg : decode cc pc = .ok (.if_icmp .ge off, 3)) (ht : (pc : Int) + off = (tgt : Int)) (ha : a < 2 ^ 31) (hb2 : b < 2 ^ 31)
    (kt : b ≤ a → W p l e R s m args below meth c H locs cells slots Q (F0 m tgt ls rest)) (kf : a < b → W p l e R s m args below meth c H locs cells slots Q (F0 m (pc + 3) ls rest)) : W p l e R s m args below meth c H locs cells slots Q (F0 m pc ls (.int (nI b) :: .int (nI a) :: rest)) :=
  lv_icmp_ge hexec hb hdg ht (fun h => kt ((nI_leI hb2 ha).mp h)) (fun h => kf (Nat.not_le.mp fun h2 => h ((nI_leI hb2 ha).mpr h2)))
theorem q_icmp_lt (hexec : p.tables.exec = Jvm.exec) (hb : c.code = cc) {a b : Nat} {off : Int} {tgt : Nat} (hdg : decode cc pc = .ok (.if_icmp .lt off, 3)) (ht : (pc : Int) + off = (tgt : Int)) (ha : a < 2 ^ 31) (hb2 : b < 2 ^ 31)
    (kt : a < b → W p l e R s m args below meth c H locs cells slots Q (F0 m tgt ls rest)) (kf : b ≤ a → W p l e R s m args below meth c H locs cells slots Q (F0 m (pc + 3) ls rest)) : W p l e R s m args below meth c H locs cells slots Q (F0 m pc ls (.int (nI b) :: .int (nI a) :: rest)) :=
  lv_icmp_lt hexec hb hdg ht (fun h => kt ((nI_ltI ha hb2).mp h)) (fun h => kf (Nat.not_lt.mp fun h2 => h ((nI_ltI ha hb2).mpr h2)))
theorem q_icmp_gt (hexec : p.tables.exec = Jvm.exec) (hb : c.code = cc) {a b : Nat} {off : Int} {tgt : Nat} (hdg : decode cc pc = .ok (.if_icmp .gt off, 3)) (ht : (pc : Int) + off = (tgt : Int)) (ha : a < 2 ^ 31) (hb2 : b < 2 ^ 31)
    (kt : b < a → W p l e R s m args below meth c H locs cells slots Q (F0 m tgt ls rest)) (kf : a ≤ b → W p l e R s m args below meth c H locs cells slots Q (F0 m (pc + 3) ls rest)) : W p l e R s m args below meth c H locs cells slots Q (F0 m pc ls (.int (nI b) :: .int (nI a) :: rest)) :=
  lv_icmp_gt hexec hb hdg ht (fun h => kt ((nI_ltI hb2 ha).mp h)) (fun h => kf (Nat.not_lt.mp fun h2 => h ((nI_ltI hb2 ha).mpr h2)))
theorem q_icmp_le (hexec : p.tables.exec = Jvm.exec) (hb : c.code = cc) {a b : Nat} {off : Int} {tgt : Nat} (hdg : decode cc pc = .ok (.if_icmp .le off, 3)) (ht : (pc : Int) + off = (tgt : Int)) (ha : a < 2 ^ 31) (hb2 : b < 2 ^ 31)
    (kt : a ≤ b → W p l e R s m args below meth c H locs cells slots Q (F0 m tgt ls rest)) (kf : b < a → W p l e R s m args below meth c H locs cells slots Q (F0 m (pc + 3) ls rest)) : W p l e R s m args below meth c H locs cells slots Q (F0 m pc ls (.int (nI b) :: .int (nI a) :: rest)) :=
  lv_icmp_le hexec hb hdg ht (fun h => kt ((nI_leI ha hb2).mp h)) (fun h => kf (Nat.not_le.mp fun h2 => h ((nI_leI ha hb2).mpr h2)))
theorem q_icmp_eq (hexec : p.tables.exec = Jvm.exec) (hb : c.code = cc) {a b : Nat} {off : Int} {tgt : Nat} (hdg : decode cc pc = .ok (.if_icmp .eq off, 3)) (ht : (pc : Int) + off = (tgt : Int)) (ha : a < 2 ^ 31) (hb2 : b < 2 ^ 31)
    (kt : a = b → W p l e R s m args below meth c H locs cells slots Q (F0 m tgt ls rest)) (kf : ¬ a = b → W p l e R s m args below meth c H locs cells slots Q (F0 m (pc + 3) ls rest)) : W p l e R s m args below meth c H locs cells slots Q (F0 m pc ls (.int (nI b) :: .int (nI a) :: rest)) :=
  lv_icmp_eq hexec hb hdg ht (fun h => kt ((nI_eq ha hb2).mp h)) (fun h => kf (fun h2 => h ((nI_eq ha hb2).mpr h2)))
theorem q_icmp_ne (hexec : p.tables.exec = Jvm.exec) (hb : c.code = cc) {a b : Nat} {off : Int} {tgt : Nat} (hdg : decode cc pc = .ok (.if_icmp .ne off, 3)) (ht : (pc : Int) + off = (tgt : Int)) (ha : a < 2 ^ 31) (hb2 : b < 2 ^ 31)
    (kt : ¬ a = b → W p l e R s m args below meth c H locs cells slots Q (F0 m tgt ls rest)) (kf : a = b → W p l e R s m args below meth c H locs cells slots Q (F0 m (pc + 3) ls rest)) : W p l e R s m args below meth c H locs cells slots Q (F0 m pc ls (.int (nI b) :: .int (nI a) :: rest)) :=
  lv_icmp_ne hexec hb hdg ht (fun h => kt (fun h2 => h ((nI_eq ha hb2).mpr h2))) (fun h => kf ((nI_eq ha hb2).mp h))
theorem q_if_eq (hexec : p.tables.exec = Jvm.exec) (hb : c.code = cc) {a : Nat} {off : Int} {tgt : Nat} (hdg : decode cc pc = .ok (.ifCond .eq off, 3)) (ht : (pc : Int) + off = (tgt : Int)) (ha : a < 2 ^ 31)
    (kt : a = 0 → W p l e R s m args below meth c H locs cells slots Q (F0 m tgt ls rest)) (kf : 0 < a → W p l e R s m args below meth c H locs cells slots Q (F0 m (pc + 3) ls rest)) : W p l e R s m args below meth c H locs cells slots Q (F0 m pc ls (.int (nI a) :: rest)) :=
  lv_if_eq hexec hb hdg ht (fun h => kt ((nI_eq ha (by decide)).mp h)) (fun h => kf (Nat.pos_of_ne_zero fun h2 => h (by rw [h2]; rfl)))
theorem q_if_ne (hexec : p.tables.exec = Jvm.exec) (hb : c.code = cc) {a : Nat} {off : Int} {tgt : Nat} (hdg : decode cc pc = .ok (.ifCond .ne off, 3)) (ht : (pc : Int) + off = (tgt : Int)) (ha : a < 2 ^ 31)
    (kt : 0 < a → W p l e R s m args below meth c H locs cells slots Q (F0 m tgt ls rest)) (kf : a = 0 → W p l e R s m args below meth c H locs cells slots Q (F0 m (pc + 3) ls rest)) : W p l e R s m args below meth c H locs cells slots Q (F0 m pc ls (.int (nI a) :: rest)) :=
  lv_if_ne hexec hb hdg ht (fun h => kt (Nat.pos_of_ne_zero fun h2 => h (by rw [h2]; rfl))) (fun h => kf ((nI_eq ha (by decide)).mp h))
theorem q_if_lt (hexec : p.tables.exec = Jvm.exec) (hb : c.code = cc) {a : Nat} {off : Int} {tgt : Nat} (hdg : decode cc pc = .ok (.ifCond .lt off, 3)) (ht : (pc : Int) + off = (tgt : Int)) (ha : a < 2 ^ 31)
    (kf : W p l e R s m args below meth c H locs cells slots Q (F0 m (pc + 3) ls rest)) : W p l e R s m args below meth c H locs cells slots Q (F0 m pc ls (.int (nI a) :: rest)) :=
  lv_if_lt hexec hb hdg ht (fun h => absurd h (nI_pos ha)) (fun _ => kf)
theorem q_if_ge (hexec : p.tables.exec = Jvm.exec) (hb : c.code = cc) {a : Nat} {off : Int} {tgt : Nat} (hdg : decode cc pc = .ok (.ifCond .ge off, 3)) (ht : (pc : Int) + off = (tgt : Int)) (ha : a < 2 ^ 31)
    (kt : W p l e R s m args below meth c H locs cells slots Q (F0 m tgt ls rest)) : W p l e R s m args below meth c H locs cells slots Q (F0 m pc ls (.int (nI a) :: rest)) :=
  lv_if_ge hexec hb hdg ht (fun _ => kt) (fun h => absurd (nI_pos' ha) h)
theorem q_if_gt (hexec : p.tables.exec = Jvm.exec) (hb : c.code = cc) {a : Nat} {off : Int} {tgt : Nat} (hdg : decode cc pc = .ok (.ifCond .gt off, 3)) (ht : (pc : Int) + off = (tgt : Int)) (ha : a < 2 ^ 31)
    (kt : 0 < a → W p l e R s m args below meth c H locs cells slots Q (F0 m tgt ls rest)) (kf : a = 0 → W p l e R s m args below meth c H locs cells slots Q (F0 m (pc + 3) ls rest)) : W p l e R s m args below meth c H locs cells slots Q (F0 m pc ls (.int (nI a) :: rest)) :=
  lv_if_gt hexec hb hdg ht (fun h => kt ((nI_ltI (a := 0) (by decide) ha).mp h)) (fun h => kf (Nat.eq_zero_of_not_pos fun h2 => h ((nI_ltI (a := 0) (by decide) ha).mpr h2)))
theorem q_if_le (hexec : p.tables.exec = Jvm.exec) (hb : c.code = cc) {a : Nat} {off : Int} {tgt : Nat} (hdg : decode cc pc = .ok (.ifCond .le off, 3)) (ht : (pc : Int) + off = (tgt : Int)) (ha : a < 2 ^ 31)
    (kt : a = 0 → W p l e R s m args below meth c H locs cells slots Q (F0 m tgt ls rest)) (kf : 0 < a → W p l e R s m args below meth c H locs cells slots Q (F0 m (pc + 3) ls rest)) : W p l e R s m args below meth c H locs cells slots Q (F0 m pc ls (.int (nI a) :: rest)) :=
  lv_if_le hexec hb hdg ht (fun h => kt (Nat.eq_zero_of_not_pos fun h2 => absurd h (nI_nle h2 ha))) (fun h => kf (Nat.pos_of_ne_zero fun h2 => h (by rw [h2]; decide)))
theorem q_ifb_eq (hexec : p.tables.exec = Jvm.exec) (hb : c.code = cc) {P : Prop} [Decidable P] {off : Int} {tgt : Nat} (hdg : decode cc pc = .ok (.ifCond .eq off, 3)) (ht : (pc : Int) + off = (tgt : Int))
    (kt : ¬ P → W p l e R s m args below meth c H locs cells slots Q (F0 m tgt ls rest)) (kf : P → W p l e R s m args below meth c H locs cells slots Q (F0 m (pc + 3) ls rest)) : W p l e R s m args below meth c H locs cells slots Q (F0 m pc ls (.int (if P then 1 else 0) :: rest)) :=
  lv_if_eq hexec hb hdg ht (fun h => kt (fun h2 => by rw [if_pos h2] at h; exact absurd h (by decide))) (fun h => kf (Decidable.byContradiction fun h2 => h (by rw [if_neg h2])))
theorem q_ifb_ne (hexec : p.tables.exec = Jvm.exec) (hb : c.code = cc) {P : Prop} [Decidable P] {off : Int} {tgt : Nat} (hdg : decode cc pc = .ok (.ifCond .ne off, 3)) (ht : (pc : Int) + off = (tgt : Int))
    (kt : P → W p l e R s m args below meth c H locs cells slots Q (F0 m tgt ls rest)) (kf : ¬ P → W p l e R s m args below meth c H locs cells slots Q (F0 m (pc + 3) ls rest)) : W p l e R s m args below meth c H locs cells slots Q (F0 m pc ls (.int (if P then 1 else 0) :: rest)) :=
  lv_if_ne hexec hb hdg ht (fun h => kt (Decidable.byContradiction fun h2 => h (by rw [if_neg h2]))) (fun h => kf (fun h2 => by rw [if_pos h2] at h; exact absurd h (by decide)))
end QR
theorem q_min {a b : Nat} (ha : a < 2 ^ 31) (hb : b < 2 ^ 31) : (if nI b < nI a then nI b else nI a) = nI (min a b) := by
  by_cases h : b < a
  · rw [if_pos ((nI_ltI hb ha).mpr h), Nat.min_eq_right (by omega)]
  · rw [if_neg (fun h2 => h ((nI_ltI hb ha).mp h2)), Nat.min_eq_left (by omega)]
theorem q_max {a b : Nat} (ha : a < 2 ^ 31) (hb : b < 2 ^ 31) : (if nI a < nI b then nI b else nI a) = nI (max a b) := by
  by_cases h : a < b
  · rw [if_pos ((nI_ltI ha hb).mpr h), Nat.max_eq_right (by omega)]
  · rw [if_neg (fun h2 => h ((nI_ltI ha hb).mp h2)), Nat.max_eq_left (by omega)]
theorem q_narb (P : Prop) [Decidable P] : narrow .boolean (.int (if P then 1 else 0)) = .int (if P then 1 else 0) := by
  by_cases h : P <;> simp [h] <;> decide
section QS
variable {p : Program} {l : Launch} {e : Env} {R : Room} {s : State} {m : MethodId} {args : Array Value} {below : List Frame} {meth : Method} {c : Code} {H : Heap} {locs : List Loc} {cells slots : Nat} {Q : State → Prop} {cc : ByteArray} {pc : Nat} {ls : Array Slot} {rest : List Value}
theorem q_aload_n (hexec : p.tables.exec = Jvm.exec) (hb : c.code = cc) {k : Fin 4} {i : Nat} {x : Option Nat} (hdg : decode cc pc = .ok (.aload_n k, 1)) (hi : (k : Nat) = i) (hl : ls[i]? = some (.val (va_rf x)))
    (k : W p l e R s m args below meth c H locs cells slots Q (F0 m (pc + 1) ls (va_rf x :: rest))) : W p l e R s m args below meth c H locs cells slots Q (F0 m pc ls rest) := by
  cases x with
  | none => exact lv_aload_nN hexec hb hdg hi hl k
  | some y => exact lv_aload_n hexec hb hdg hi hl k
theorem q_aload (hexec : p.tables.exec = Jvm.exec) (hb : c.code = cc) {i : Nat} {x : Option Nat} (hdg : decode cc pc = .ok (.aload i, 2)) (hl : ls[i]? = some (.val (va_rf x)))
    (k : W p l e R s m args below meth c H locs cells slots Q (F0 m (pc + 2) ls (va_rf x :: rest))) : W p l e R s m args below meth c H locs cells slots Q (F0 m pc ls rest) := by
  cases x with
  | none => exact lv_aloadN hexec hb hdg hl k
  | some y => exact lv_aload hexec hb hdg hl k
theorem q_astore_n (hexec : p.tables.exec = Jvm.exec) (hb : c.code = cc) {k : Fin 4} {i nL : Nat} {x : Option Nat} {lv lv' : List (Nat × Value)} (hdg : decode cc pc = .ok (.astore_n k, 1)) (hi : (k : Nat) = i) (h : lv_has ls nL lv) (hn : i < nL) (hl : (i, va_rf x) :: lv.filter (fun q => !(q.1 == i) && !(q.1 + 1 == i && q.2.category == 2)) = lv')
    (kk : ∀ ls' : Array Slot, lv_has ls' nL lv' → W p l e R s m args below meth c H locs cells slots Q (F0 m (pc + 1) ls' rest)) : W p l e R s m args below meth c H locs cells slots Q (F0 m pc ls (va_rf x :: rest)) := by
  cases x with
  | none => exact lv_astore_nN hexec hb hdg hi h hn hl kk
  | some y => exact lv_astore_n hexec hb hdg hi h hn hl kk
theorem q_astore (hexec : p.tables.exec = Jvm.exec) (hb : c.code = cc) {i nL : Nat} {x : Option Nat} {lv lv' : List (Nat × Value)} (hdg : decode cc pc = .ok (.astore i, 2)) (h : lv_has ls nL lv) (hn : i < nL) (hl : (i, va_rf x) :: lv.filter (fun q => !(q.1 == i) && !(q.1 + 1 == i && q.2.category == 2)) = lv')
    (kk : ∀ ls' : Array Slot, lv_has ls' nL lv' → W p l e R s m args below meth c H locs cells slots Q (F0 m (pc + 2) ls' rest)) : W p l e R s m args below meth c H locs cells slots Q (F0 m pc ls (va_rf x :: rest)) := by
  cases x with
  | none => exact lv_astoreN hexec hb hdg h hn hl kk
  | some y => exact lv_astore hexec hb hdg h hn hl kk
theorem q_ifnull (hexec : p.tables.exec = Jvm.exec) (hb : c.code = cc) {x : Option Nat} {off : Int} {tgt : Nat} (hdg : decode cc pc = .ok (.ifnull off, 3)) (ht : (pc : Int) + off = (tgt : Int))
    (kn : x = none → W p l e R s m args below meth c H locs cells slots Q (F0 m tgt ls rest)) (ks : ∀ y : Nat, x = some y → W p l e R s m args below meth c H locs cells slots Q (F0 m (pc + 3) ls rest)) : W p l e R s m args below meth c H locs cells slots Q (F0 m pc ls (va_rf x :: rest)) := by
  cases x with
  | none => exact lv_ifnullN hexec hb hdg ht (kn rfl)
  | some y => exact lv_ifnull hexec hb hdg (ks y rfl)
theorem q_ifnonnull (hexec : p.tables.exec = Jvm.exec) (hb : c.code = cc) {x : Option Nat} {off : Int} {tgt : Nat} (hdg : decode cc pc = .ok (.ifnonnull off, 3)) (ht : (pc : Int) + off = (tgt : Int))
    (kn : x = none → W p l e R s m args below meth c H locs cells slots Q (F0 m (pc + 3) ls rest)) (ks : ∀ y : Nat, x = some y → W p l e R s m args below meth c H locs cells slots Q (F0 m tgt ls rest)) : W p l e R s m args below meth c H locs cells slots Q (F0 m pc ls (va_rf x :: rest)) := by
  cases x with
  | none => exact lv_ifnonnullN hexec hb hdg (kn rfl)
  | some y => exact lv_ifnonnull hexec hb hdg ht (ks y rfl)
end QS
section QT
variable {p : Program} {l : Launch} {e : Env} {R : Room} {s : State} {m : MethodId} {args : Array Value} {below : List Frame} {meth : Method} {c : Code} {H : Heap} {locs : List Loc} {cells slots : Nat} {Q : State → Prop} {cc : ByteArray} {pc : Nat} {ls : Array Slot} {rest : List Value}
theorem q_lr_eq (hexec : p.tables.exec = Jvm.exec) (hb : c.code = cc) {x y : Int64} {off : Int} {tgt : Nat} (hdg : decode cc pc = .ok (.ifCond .eq off, 3)) (ht : (pc : Int) + off = (tgt : Int)) (kt : x = y → W p l e R s m args below meth c H locs cells slots Q (F0 m tgt ls rest)) (kf : ¬ x = y → W p l e R s m args below meth c H locs cells slots Q (F0 m (pc + 3) ls rest)) : W p l e R s m args below meth c H locs cells slots Q (F0 m pc ls (.int (lg_cmp x y) :: rest)) :=
  lv_if_eq hexec hb hdg ht (fun h => kt ((lg_cmp_eq x y).mp h)) (fun h => kf (fun h2 => h ((lg_cmp_eq x y).mpr h2)))
theorem q_lc_eq (hexec : p.tables.exec = Jvm.exec) (hb : c.code = cc) {a b : Nat} {off : Int} {tgt : Nat} (hdg : decode cc pc = .ok (.ifCond .eq off, 3)) (ht : (pc : Int) + off = (tgt : Int)) (ha : a < 2 ^ 63) (hb2 : b < 2 ^ 63) (kt : a = b → W p l e R s m args below meth c H locs cells slots Q (F0 m tgt ls rest)) (kf : ¬ a = b → W p l e R s m args below meth c H locs cells slots Q (F0 m (pc + 3) ls rest)) : W p l e R s m args below meth c H locs cells slots Q (F0 m pc ls (.int (lg_cmp (lN a) (lN b)) :: rest)) :=
  q_lr_eq hexec hb hdg ht (fun h => kt ((pk_lEQ ha hb2).mp h)) (fun h => kf (fun h2 => h ((pk_lEQ ha hb2).mpr h2)))
theorem q_lr_ne (hexec : p.tables.exec = Jvm.exec) (hb : c.code = cc) {x y : Int64} {off : Int} {tgt : Nat} (hdg : decode cc pc = .ok (.ifCond .ne off, 3)) (ht : (pc : Int) + off = (tgt : Int)) (kt : ¬ x = y → W p l e R s m args below meth c H locs cells slots Q (F0 m tgt ls rest)) (kf : x = y → W p l e R s m args below meth c H locs cells slots Q (F0 m (pc + 3) ls rest)) : W p l e R s m args below meth c H locs cells slots Q (F0 m pc ls (.int (lg_cmp x y) :: rest)) :=
  lv_if_ne hexec hb hdg ht (fun h => kt (fun h2 => h ((lg_cmp_eq x y).mpr h2))) (fun h => kf ((lg_cmp_eq x y).mp h))
theorem q_lc_ne (hexec : p.tables.exec = Jvm.exec) (hb : c.code = cc) {a b : Nat} {off : Int} {tgt : Nat} (hdg : decode cc pc = .ok (.ifCond .ne off, 3)) (ht : (pc : Int) + off = (tgt : Int)) (ha : a < 2 ^ 63) (hb2 : b < 2 ^ 63) (kt : ¬ a = b → W p l e R s m args below meth c H locs cells slots Q (F0 m tgt ls rest)) (kf : a = b → W p l e R s m args below meth c H locs cells slots Q (F0 m (pc + 3) ls rest)) : W p l e R s m args below meth c H locs cells slots Q (F0 m pc ls (.int (lg_cmp (lN a) (lN b)) :: rest)) :=
  q_lr_ne hexec hb hdg ht (fun h => kt (fun h2 => h ((pk_lEQ ha hb2).mpr h2))) (fun h => kf ((pk_lEQ ha hb2).mp h))
theorem q_lr_lt (hexec : p.tables.exec = Jvm.exec) (hb : c.code = cc) {x y : Int64} {off : Int} {tgt : Nat} (hdg : decode cc pc = .ok (.ifCond .lt off, 3)) (ht : (pc : Int) + off = (tgt : Int)) (kt : x < y → W p l e R s m args below meth c H locs cells slots Q (F0 m tgt ls rest)) (kf : ¬ x < y → W p l e R s m args below meth c H locs cells slots Q (F0 m (pc + 3) ls rest)) : W p l e R s m args below meth c H locs cells slots Q (F0 m pc ls (.int (lg_cmp x y) :: rest)) :=
  lv_if_lt hexec hb hdg ht (fun h => kt ((lg_cmp_lt x y).mp h)) (fun h => kf (fun h2 => h ((lg_cmp_lt x y).mpr h2)))
theorem q_lc_lt (hexec : p.tables.exec = Jvm.exec) (hb : c.code = cc) {a b : Nat} {off : Int} {tgt : Nat} (hdg : decode cc pc = .ok (.ifCond .lt off, 3)) (ht : (pc : Int) + off = (tgt : Int)) (ha : a < 2 ^ 63) (hb2 : b < 2 ^ 63) (kt : a < b → W p l e R s m args below meth c H locs cells slots Q (F0 m tgt ls rest)) (kf : b ≤ a → W p l e R s m args below meth c H locs cells slots Q (F0 m (pc + 3) ls rest)) : W p l e R s m args below meth c H locs cells slots Q (F0 m pc ls (.int (lg_cmp (lN a) (lN b)) :: rest)) :=
  q_lr_lt hexec hb hdg ht (fun h => kt ((pk_lLT ha hb2).mp h)) (fun h => kf (Nat.le_of_not_lt fun h2 => h ((pk_lLT ha hb2).mpr h2)))
theorem q_lr_ge (hexec : p.tables.exec = Jvm.exec) (hb : c.code = cc) {x y : Int64} {off : Int} {tgt : Nat} (hdg : decode cc pc = .ok (.ifCond .ge off, 3)) (ht : (pc : Int) + off = (tgt : Int)) (kt : y ≤ x → W p l e R s m args below meth c H locs cells slots Q (F0 m tgt ls rest)) (kf : ¬ y ≤ x → W p l e R s m args below meth c H locs cells slots Q (F0 m (pc + 3) ls rest)) : W p l e R s m args below meth c H locs cells slots Q (F0 m pc ls (.int (lg_cmp x y) :: rest)) :=
  lv_if_ge hexec hb hdg ht (fun h => kt ((lg_cmp_ge x y).mp h)) (fun h => kf (fun h2 => h ((lg_cmp_ge x y).mpr h2)))
theorem q_lc_ge (hexec : p.tables.exec = Jvm.exec) (hb : c.code = cc) {a b : Nat} {off : Int} {tgt : Nat} (hdg : decode cc pc = .ok (.ifCond .ge off, 3)) (ht : (pc : Int) + off = (tgt : Int)) (ha : a < 2 ^ 63) (hb2 : b < 2 ^ 63) (kt : b ≤ a → W p l e R s m args below meth c H locs cells slots Q (F0 m tgt ls rest)) (kf : a < b → W p l e R s m args below meth c H locs cells slots Q (F0 m (pc + 3) ls rest)) : W p l e R s m args below meth c H locs cells slots Q (F0 m pc ls (.int (lg_cmp (lN a) (lN b)) :: rest)) :=
  q_lr_ge hexec hb hdg ht (fun h => kt ((pk_lLE hb2 ha).mp h)) (fun h => kf (Nat.lt_of_not_le fun h2 => h ((pk_lLE hb2 ha).mpr h2)))
theorem q_lr_gt (hexec : p.tables.exec = Jvm.exec) (hb : c.code = cc) {x y : Int64} {off : Int} {tgt : Nat} (hdg : decode cc pc = .ok (.ifCond .gt off, 3)) (ht : (pc : Int) + off = (tgt : Int)) (kt : y < x → W p l e R s m args below meth c H locs cells slots Q (F0 m tgt ls rest)) (kf : ¬ y < x → W p l e R s m args below meth c H locs cells slots Q (F0 m (pc + 3) ls rest)) : W p l e R s m args below meth c H locs cells slots Q (F0 m pc ls (.int (lg_cmp x y) :: rest)) :=
  lv_if_gt hexec hb hdg ht (fun h => kt ((lg_cmp_gt x y).mp h)) (fun h => kf (fun h2 => h ((lg_cmp_gt x y).mpr h2)))
theorem q_lc_gt (hexec : p.tables.exec = Jvm.exec) (hb : c.code = cc) {a b : Nat} {off : Int} {tgt : Nat} (hdg : decode cc pc = .ok (.ifCond .gt off, 3)) (ht : (pc : Int) + off = (tgt : Int)) (ha : a < 2 ^ 63) (hb2 : b < 2 ^ 63) (kt : b < a → W p l e R s m args below meth c H locs cells slots Q (F0 m tgt ls rest)) (kf : a ≤ b → W p l e R s m args below meth c H locs cells slots Q (F0 m (pc + 3) ls rest)) : W p l e R s m args below meth c H locs cells slots Q (F0 m pc ls (.int (lg_cmp (lN a) (lN b)) :: rest)) :=
  q_lr_gt hexec hb hdg ht (fun h => kt ((pk_lLT hb2 ha).mp h)) (fun h => kf (Nat.le_of_not_lt fun h2 => h ((pk_lLT hb2 ha).mpr h2)))
theorem q_lr_le (hexec : p.tables.exec = Jvm.exec) (hb : c.code = cc) {x y : Int64} {off : Int} {tgt : Nat} (hdg : decode cc pc = .ok (.ifCond .le off, 3)) (ht : (pc : Int) + off = (tgt : Int)) (kt : x ≤ y → W p l e R s m args below meth c H locs cells slots Q (F0 m tgt ls rest)) (kf : ¬ x ≤ y → W p l e R s m args below meth c H locs cells slots Q (F0 m (pc + 3) ls rest)) : W p l e R s m args below meth c H locs cells slots Q (F0 m pc ls (.int (lg_cmp x y) :: rest)) :=
  lv_if_le hexec hb hdg ht (fun h => kt ((lg_cmp_le x y).mp h)) (fun h => kf (fun h2 => h ((lg_cmp_le x y).mpr h2)))
theorem q_lc_le (hexec : p.tables.exec = Jvm.exec) (hb : c.code = cc) {a b : Nat} {off : Int} {tgt : Nat} (hdg : decode cc pc = .ok (.ifCond .le off, 3)) (ht : (pc : Int) + off = (tgt : Int)) (ha : a < 2 ^ 63) (hb2 : b < 2 ^ 63) (kt : a ≤ b → W p l e R s m args below meth c H locs cells slots Q (F0 m tgt ls rest)) (kf : b < a → W p l e R s m args below meth c H locs cells slots Q (F0 m (pc + 3) ls rest)) : W p l e R s m args below meth c H locs cells slots Q (F0 m pc ls (.int (lg_cmp (lN a) (lN b)) :: rest)) :=
  q_lr_le hexec hb hdg ht (fun h => kt ((pk_lLE ha hb2).mp h)) (fun h => kf (Nat.lt_of_not_le fun h2 => h ((pk_lLE ha hb2).mpr h2)))
end QT
theorem q_ofInt (k : Nat) : Int32.ofInt (k : Int) = nI k := Int32.toBitVec_inj.mp (BitVec.ofInt_natCast 32 k)
theorem q_inc {a k b : Nat} (h : a + k = b) : nI a + Int32.ofInt (k : Int) = nI b := by rw [q_ofInt, nI_add, h]
