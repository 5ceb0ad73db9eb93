/-! both sides of a doing -/
theorem q_lN (x : Int64) : ∃ a, a < 2 ^ 64 ∧ x = lN a := ⟨x.toBitVec.toNat, x.toBitVec.isLt, by
  apply Int64.toBitVec_inj.mp
  show x.toBitVec = BitVec.ofNat 64 x.toBitVec.toNat
  exact BitVec.eq_of_toNat_eq (by rw [BitVec.toNat_ofNat]; exact (Nat.mod_eq_of_lt x.toBitVec.isLt).symm)⟩
theorem q_hv1 {OK : Prop} [Decidable OK] {rv t2 : Int32} {x v y : Int64} (h1 : (rv = nI 0 ∧ OK ∧ x = v) ∨ (rv = nI 1 ∧ ¬ OK)) (h2 : t2 = nI (if OK then 0 else 1)) (h3 : OK → y = v) : t2 = rv ∧ (rv = 0 → x = y) := by
  rcases h1 with ⟨e, h, hx⟩ | ⟨e, h⟩
  · exact ⟨by rw [h2, if_pos h, e], fun _ => hx.trans (h3 h).symm⟩
  · exact ⟨by rw [h2, if_neg h, e], fun h9 => absurd (e.symm.trans h9) (by decide)⟩
theorem q_hv2 {A B B2 : Prop} [Decidable A] [Decidable B2] {rv t2 : Int32} {x v y : Int64} (h1 : (rv = nI 0 ∧ A ∧ B ∧ x = v) ∨ (rv = nI 1 ∧ ¬ A) ∨ (rv = nI 2 ∧ A ∧ ¬ B)) (h2 : t2 = nI (if A then (if B2 then 0 else 2) else 1)) (hB : B ↔ B2) (h3 : A → B → y = v) : t2 = rv ∧ (rv = 0 → x = y) := by
  rcases h1 with ⟨e, h, hb, hx⟩ | ⟨e, h⟩ | ⟨e, h, hb⟩
  · exact ⟨by rw [h2, if_pos h, if_pos (hB.mp hb), e], fun _ => hx.trans (h3 h hb).symm⟩
  · exact ⟨by rw [h2, if_neg h, e], fun h9 => absurd (e.symm.trans h9) (by decide)⟩
  · exact ⟨by rw [h2, if_pos h, if_neg (fun h8 => hb (hB.mpr h8)), e], fun h9 => absurd (e.symm.trans h9) (by decide)⟩
theorem q_hvb {A P : Prop} [Decidable A] [Decidable P] {rv t2 r : Int32} {x : Int64} (h1 : (rv = nI 0 ∧ A ∧ ((P ∧ x = lN 1) ∨ (¬ P ∧ x = lN 0))) ∨ (rv = nI 1 ∧ ¬ A)) (h2 : t2 = nI (if A then 0 else 1)) (h3 : r = if A ∧ P then 1 else 0) : t2 = rv ∧ (rv = 0 → (r = 0 → x = lN 0) ∧ (¬ r = 0 → x = lN 1)) := by
  rcases h1 with ⟨e, h, hx⟩ | ⟨e, h⟩
  · refine ⟨by rw [h2, if_pos h, e], fun _ => ?_⟩
    rcases hx with ⟨hp, hx⟩ | ⟨hp, hx⟩
    · rw [if_pos ⟨h, hp⟩] at h3
      exact ⟨fun h9 => absurd (h3.symm.trans h9) (by decide), fun _ => hx⟩
    · rw [if_neg (fun h9 => hp h9.2)] at h3
      exact ⟨fun _ => hx, fun h9 => absurd h3 h9⟩
  · exact ⟨by rw [h2, if_neg h, e], fun h9 => absurd (e.symm.trans h9) (by decide)⟩
theorem rg_inj {f : Nat → Nat} {n : Nat} (h : (rg f n).Nodup) : ∀ i j, i < n → j < n → f i = f j → i = j := fun i j hi hj e =>
  (List.getElem?_inj (by rw [rg_len]; exact hi) h).mp (by rw [rg_get hi, rg_get hj, e])
theorem q_poolinj {A : Nat → Prop} {X : va_W} {ea wa : Nat → Nat} {pf : Nat → Option Nat} {cn dp oc wd : Nat → Nat} {ic lf pt : Nat → Int32} {n : Nat} (hD : va_D A (X ++ (EW ea wa pf cn dp oc ic lf pt n ++ WW wa wd n))) : ∀ i j, i < n → j < n → ea i = ea j → i = j := by
  have h := q_nodD hD
  rw [List.map_append, List.map_append, EW_fst] at h
  exact rg_inj (List.nodup_append.mp (List.nodup_append.mp h).2.1).1
theorem lw_cand0 {wd ct : Nat → Nat} {a k i : Nat} (hk : k ≤ 2) (hb : gw (wd i)) (hv : gw a) : cdp wd ct a k 0 i ↔ (0 < ct i ∧ cdk wd a k i) :=
  ⟨fun h => ⟨h.1.1, (cand_iff hk hb hv).mp h.1.2⟩, fun h => ⟨⟨h.1, (cand_iff hk hb hv).mpr h.2⟩, fun h9 => absurd h9.1 (by decide)⟩⟩
theorem lw_cand1 {wd ct : Nat → Nat} {a k i : Nat} (hk : k ≤ 2) (hb : gw (wd i)) (hv : gw a) : cdp wd ct a k 1 i ↔ (0 < ct i ∧ (cdk wd a k i ∧ ¬ dst wd a i ≤ k)) :=
  ⟨fun h => ⟨h.1.1, (cand_iff hk hb hv).mp h.1.2, fun h9 => h.2 ⟨rfl, h.1.1, h9⟩⟩, fun h => ⟨⟨h.1, (cand_iff hk hb hv).mpr h.2.1⟩, fun h9 => h.2.2 h9.2.2⟩⟩
theorem inv_00 {pa : Nat → Option Nat} : INV 0 (fun _ => 0) (fun _ => 0) pa (fun _ => 0) (fun _ => 0) (fun _ => 0) 0 :=
  inv_cg inv_0 (fun k h => absurd h (Nat.not_lt_zero k)) (fun k h => absurd h (Nat.not_lt_zero k)) (fun k h => absurd h (Nat.not_lt_zero k)) (fun _ => rfl) (fun k h => absurd h (Nat.not_lt_zero k)) (fun j h => absurd h (Nat.not_lt_zero j))
theorem q_len5 {L i : Nat} (hL : L < 2 ^ 30) (hi : i < 2 ^ 31) : nI L - nI 5 < nI i ↔ L < i + 5 := by
  rw [Int32.lt_iff_toInt_lt, pk_sub_toInt hL (by omega), nI_toInt hi]; omega

section LW
variable {n m : Nat} {wd ct : Nat → Nat} {pa : Nat → Option Nat} {nm dp ki : Nat → Nat} {f fk : Nat → Option Nat} {ea wa : Nat → Nat} {rv t2 rb : Int32} {fo2 : Nat → Int64}
theorem lw_add (hI : INV n wd ct pa nm dp ki m) (hfe : ∀ j, j < n → f j = some (ea j)) (hfk : ∀ j, j < m → fk j = some (ea (ki j))) {a : Nat} {x9 : Int32} {nc n2 m2 : Nat} {f2 fk2 pf2 p2 : Nat → Option Nat} {ki2 ea2 wa2 cn2 dp2 oc2 wd2 w2 c2 nm2 : Nat → Nat} {ic2 lf2 pt2 : Nat → Int32}
    (h1 : ((rv = nI 0 ∧ (gw a ∧ nI 1 ≤ x9 ∧ x9 ≤ nI 1000) ∧ (∃ r8 : Int32, fo2 0 = (r8).toInt64 ∧ (((∃ i, ffi (fun k => decide (wd k = a)) n = some i ∧ ct i + kz x9 ≤ 1000000 ∧ r8 = nI (ct i + kz x9) ∧ nc = n ∧ f2 = f ∧ ea2 = ea ∧ pf2 = (fun k => (pa k).map ea) ∧ cn2 = nm ∧ dp2 = dp ∧ wd2 = wd ∧ oc2 = va_up ct i (ct i + kz x9) ∧ ((0 < ct i ∧ m2 = m ∧ fk2 = fk ∧ ki2 = ki) ∨ (ct i = 0 ∧ m2 = m + 1 ∧ ki2 = insF ki (cnt (fun j => decide (al (wd (ki j)) < al (wd i))) m) i ∧ ∀ j, j < m + 1 → fk2 j = some (ea (ki2 j))))) ∨ (ffi (fun k => decide (wd k = a)) n = none ∧ n < 40 ∧ r8 = nI (kz x9) ∧ nc = n + 1 ∧ m2 = m + 1 ∧ (∀ k, k < n → ea2 k = ea k ∧ pf2 k = (fun k => (pa k).map ea) k ∧ cn2 k = nm k ∧ dp2 k = dp k ∧ oc2 k = ct k ∧ wd2 k = wd k) ∧ oc2 n = kz x9 ∧ wd2 n = a ∧ ((n = 0 ∧ pf2 n = none ∧ cn2 n = 0 ∧ dp2 n = 0) ∨ (0 < n ∧ pf2 n = some (ea (plw (chf wd pa nm a n) n 0)) ∧ cn2 n = dst wd a (plw (chf wd pa nm a n) n 0) ∧ dp2 n = dp (plw (chf wd pa nm a n) n 0) + 1)) ∧ (∀ j, j < n + 1 → f2 j = some (ea2 j)) ∧ ki2 = insF ki (cnt (fun j => decide (al (wd2 (ki j)) < al (wd2 n))) m) n ∧ ∀ j, j < m + 1 → fk2 j = some (ea2 (ki2 j))))))) ∨ (rv = nI 1 ∧ ¬ (gw a ∧ nI 1 ≤ x9 ∧ x9 ≤ nI 1000) ∧ nc = n ∧ f2 = f ∧ m2 = m ∧ fk2 = fk ∧ ki2 = ki ∧ ea2 = ea ∧ wa2 = wa ∧ pf2 = (fun k => (pa k).map ea) ∧ cn2 = nm ∧ dp2 = dp ∧ oc2 = ct ∧ wd2 = wd) ∨ (rv = nI 2 ∧ ((gw a ∧ nI 1 ≤ x9 ∧ x9 ≤ nI 1000) ∧ ((ffi (fun k => decide (wd k = a)) n = none ∧ n = 40) ∨ ∃ i, ffi (fun k => decide (wd k = a)) n = some i ∧ 1000000 < ct i + kz x9)) ∧ nc = n ∧ f2 = f ∧ m2 = m ∧ fk2 = fk ∧ ki2 = ki ∧ ea2 = ea ∧ wa2 = wa ∧ pf2 = (fun k => (pa k).map ea) ∧ cn2 = nm ∧ dp2 = dp ∧ oc2 = ct ∧ wd2 = wd)))
    (h2 : ((¬ (gw a ∧ nI 1 ≤ x9 ∧ x9 ≤ nI 1000) ∧ t2 = nI 1 ∧ n2 = n ∧ w2 = wd ∧ c2 = ct ∧ p2 = pa ∧ nm2 = nm) ∨ ((gw a ∧ nI 1 ≤ x9 ∧ x9 ≤ nI 1000) ∧ t2 = nI 2 ∧ ((ffi (fun k => decide (wd k = a)) n = none ∧ n = 40) ∨ ∃ i, ffi (fun k => decide (wd k = a)) n = some i ∧ 1000000 < ct i + kz x9) ∧ n2 = n ∧ w2 = wd ∧ c2 = ct ∧ p2 = pa ∧ nm2 = nm) ∨ ((gw a ∧ nI 1 ≤ x9 ∧ x9 ≤ nI 1000) ∧ ffi (fun k => decide (wd k = a)) n = none ∧ n < 40 ∧ t2 = nI 0 ∧ rb = nI (kz x9) ∧ n2 = n + 1 ∧ (∀ k, k < n → w2 k = wd k) ∧ w2 n = a ∧ (∀ k, k < n → c2 k = ct k) ∧ c2 n = kz x9 ∧ (∀ k, k < n → p2 k = pa k) ∧ (∀ k, k ≠ n → nm2 k = nm k) ∧ ((n = 0 ∧ p2 n = none ∧ nm2 n = nm n) ∨ (0 < n ∧ p2 n = some (plw (chf wd pa nm a n) n 0) ∧ nm2 n = dst wd a (plw (chf wd pa nm a n) n 0)))) ∨ ((gw a ∧ nI 1 ≤ x9 ∧ x9 ≤ nI 1000) ∧ (∃ i, ffi (fun k => decide (wd k = a)) n = some i ∧ ct i + kz x9 ≤ 1000000 ∧ t2 = nI 0 ∧ rb = nI (ct i + kz x9) ∧ n2 = n ∧ w2 = wd ∧ c2 = va_up ct i (ct i + kz x9) ∧ p2 = pa ∧ nm2 = nm)))) :
    (t2 = rv ∧ (rv = 0 → fo2 0 = (rb).toInt64)) ∧ nc = n2 ∧ INV n2 w2 c2 p2 nm2 dp2 ki2 m2 ∧ (∀ j, j < n2 → f2 j = some (ea2 j)) ∧ (∀ j, j < m2 → fk2 j = some (ea2 (ki2 j))) ∧
    EW ea2 wa2 pf2 cn2 dp2 oc2 ic2 lf2 pt2 n2 = EW ea2 wa2 (fun k => (p2 k).map ea2) nm2 dp2 c2 ic2 lf2 pt2 n2 ∧ WW wa2 wd2 n2 = WW wa2 w2 n2 := by
  have hI0 := hI
  obtain ⟨hn, hg, hwi, hct, hpn, hun, hnm, hnz, hdp, hKN, hSR⟩ := hI
  have d01 : ¬ (nI 0 = (0 : Int32)) → False := fun h => h rfl
  have d10 : ¬ (nI 1 = (0 : Int32)) := by decide
  have d20 : ¬ (nI 2 = (0 : Int32)) := by decide
  rcases h1 with ⟨e1, hok, r8, hx8, hcase⟩ | ⟨e1, hno, g1, g2, g3, g4, g5, g6, g7, g8, g9, g10, g11, g12⟩ | ⟨e1, ⟨hok, hful⟩, g1, g2, g3, g4, g5, g6, g7, g8, g9, g10, g11, g12⟩
  · have gx := kz_ge (by decide) hok.2.1
    have lx := kz_le (by decide) gx.1 hok.2.2
    rcases h2 with ⟨hno, _⟩ | ⟨_, _, hful, _⟩ | ⟨_, hFn, hn4, e2, eb, q1, q2, q3, q4, q5, q6, q7, q8⟩ | ⟨_, i, hFi, hle, e2, eb, q1, q2, q3, q4, q5⟩
    · exact absurd hok hno
    · exfalso
      rcases hcase with ⟨i, hFi, hle, _⟩ | ⟨hFn, hn4, _⟩
      · rcases hful with ⟨hFn, _⟩ | ⟨i2, hFi2, hgt⟩
        · rw [hFi] at hFn; exact nomatch hFn
        · rw [hFi] at hFi2; cases hFi2; omega
      · rcases hful with ⟨_, h40⟩ | ⟨i2, hFi2, _⟩
        · omega
        · rw [hFn] at hFi2; exact nomatch hFi2
    · rcases hcase with ⟨i, hFi, _⟩ | ⟨_, _, er, b1, b2, b3, b4, b5, b6, b7, b8, b9⟩
      · rw [hFn] at hFi; exact nomatch hFi
      · subst q1
        have hC := chf_lt (wd := wd) (nm := nm) (a := a) (n := n) hpn
        have hwk : ∀ k, k < n + 1 → w2 k = va_up wd n a k := fun k hk => by
          by_cases e : k = n
          · rw [e, q_ups]; exact q3
          · rw [q_upn e]; exact q2 k (by omega)
        have hck : ∀ k, k < n + 1 → c2 k = va_up ct n (kz x9) k := fun k hk => by
          by_cases e : k = n
          · rw [e, q_ups]; exact q5
          · rw [q_upn e]; exact q4 k (by omega)
        have hN : (n = 0 ∧ p2 n = none ∧ nm2 n = 0 ∧ dp2 n = 0) ∨ (0 < n ∧ p2 n = some (plw (chf wd pa nm a n) n 0) ∧ nm2 n = dst wd a (plw (chf wd pa nm a n) n 0) ∧ dp2 n = dp (plw (chf wd pa nm a n) n 0) + 1) := by
          rcases q8 with ⟨z1, z2, z3⟩ | ⟨z1, z2, z3⟩
          · rcases b6 with ⟨_, _, _, y4⟩ | ⟨y1, _⟩
            · exact Or.inl ⟨z1, z2, z3.trans (hnz n (Nat.le_refl _)), y4⟩
            · omega
          · rcases b6 with ⟨y1, _⟩ | ⟨_, _, _, y4⟩
            · omega
            · exact Or.inr ⟨z1, z2, z3, y4⟩
        have hinv := inv_new hI0 hok.1 hn4 hFn (v := kz x9) ⟨gx.2, by omega⟩ q6 q7 (d2 := dp2) (fun k hk => (b3 k hk).2.2.2.1) hN
        have hki : ki2 = insF ki (cnt (fun j => decide (al (va_up wd n a (ki j)) < al (va_up wd n a n))) m) n := by
          rw [b8]
          refine congrArg (fun z => insF ki z n) (cnt_cg (fun j hj => ?_))
          have h9 := (hKN.1 j hj).1
          rw [(b3 _ h9).2.2.2.2.2, b5, q_ups, q_upn (show ki j ≠ n by omega)]
        refine ⟨⟨e2.trans e1.symm, fun _ => by rw [hx8, er, eb]⟩, b1, ?_, b7, ?_, ?_, ?_⟩
        · rw [b2, hki]
          exact inv_cg hinv hwk hck (fun _ _ => rfl) (fun _ => rfl) (fun _ _ => rfl) (fun _ _ => rfl)
        · rw [b2]; exact b9
        · refine EW_cg (fun k hk => ⟨rfl, rfl, ?_, ?_, rfl, ?_, rfl, rfl, rfl⟩)
          · show pf2 k = (p2 k).map ea2
            by_cases e : k = n
            · rw [e]
              rcases q8 with ⟨z1, z2, z3⟩ | ⟨z1, z2, z3⟩
              · rcases b6 with ⟨_, y2, _⟩ | ⟨y1, _⟩
                · rw [y2, z2]; rfl
                · omega
              · rcases b6 with ⟨y1, _⟩ | ⟨_, y2, _⟩
                · omega
                · rw [y2, z2]
                  show some _ = some (ea2 _)
                  rw [(b3 _ (plw_lt hC _ _ z1)).1]
            · have h8 : pf2 k = (pa k).map ea := (b3 k (by omega)).2.1
              rw [h8, q6 k (by omega)]
              cases hp : pa k with
              | none => rfl
              | some q =>
                have := hpn k q (by omega) hp
                show some _ = some (ea2 q)
                rw [(b3 q (by omega)).1]
          · by_cases e : k = n
            · rw [e]
              rcases q8 with ⟨z1, z2, z3⟩ | ⟨z1, z2, z3⟩
              · rcases b6 with ⟨_, _, y3, _⟩ | ⟨y1, _⟩
                · rw [y3, z3, hnz n (Nat.le_refl _)]
                · omega
              · rcases b6 with ⟨y1, _⟩ | ⟨_, _, y3, _⟩
                · omega
                · rw [y3, z3]
            · rw [(b3 k (by omega)).2.2.1, q7 k e]
          · by_cases e : k = n
            · rw [e, b4, q5]
            · rw [(b3 k (by omega)).2.2.2.2.1, q4 k (by omega)]
        · refine WW_cg (fun k hk => ⟨rfl, ?_⟩)
          by_cases e : k = n
          · rw [e, b5, q3]
          · rw [(b3 k (by omega)).2.2.2.2.2, q2 k (by omega)]
    · rcases hcase with ⟨i2, hFi2, _, er, b1, b2, b3, b4, b5, b6, b7, b8, b9⟩ | ⟨hFn, _⟩
      · rw [hFi] at hFi2
        cases hFi2
        have hin := (ffi_some hFi).1
        subst q1; subst q2; subst q3; subst q4; subst q5
        subst b1; subst b2; subst b3; subst b4; subst b5; subst b6; subst b7; subst b8
        refine ⟨⟨e2.trans e1.symm, fun _ => by rw [hx8, er, eb]⟩, rfl, ?_⟩
        rcases b9 with ⟨h0, z1, z2, z3⟩ | ⟨h0, z1, z2, z3⟩
        · subst z1; subst z2; subst z3
          exact ⟨inv_old hI0 hin h0 ⟨by omega, hle⟩, hfe, hfk, rfl, rfl⟩
        · subst z1; subst z2
          exact ⟨inv_old0 hI0 hin h0 ⟨by omega, hle⟩, hfe, z3, rfl, rfl⟩
      · rw [hFi] at hFn; exact nomatch hFn
  · rcases h2 with ⟨_, e2, q1, q2, q3, q4, q5⟩ | ⟨hok, _⟩ | ⟨hok, _⟩ | ⟨hok, _⟩
    · subst q1; subst q2; subst q3; subst q4; subst q5
      subst g1; subst g2; subst g3; subst g4; subst g5; subst g6; subst g7; subst g8; subst g9; subst g10; subst g11; subst g12
      exact ⟨⟨e2.trans e1.symm, fun h => absurd (e1.symm.trans h) d10⟩, rfl, hI0, hfe, hfk, rfl, rfl⟩
    · exact absurd hok hno
    · exact absurd hok hno
    · exact absurd hok hno
  · rcases h2 with ⟨hno, _⟩ | ⟨_, e2, _, q1, q2, q3, q4, q5⟩ | ⟨_, hFn, hn4, _⟩ | ⟨_, i, hFi, hle, _⟩
    · exact absurd hok hno
    · subst q1; subst q2; subst q3; subst q4; subst q5
      subst g1; subst g2; subst g3; subst g4; subst g5; subst g6; subst g7; subst g8; subst g9; subst g10; subst g11; subst g12
      exact ⟨⟨e2.trans e1.symm, fun h => absurd (e1.symm.trans h) d20⟩, rfl, hI0, hfe, hfk, rfl, rfl⟩
    · exfalso
      rcases hful with ⟨_, h40⟩ | ⟨i2, hFi2, _⟩
      · omega
      · rw [hFn] at hFi2; exact nomatch hFi2
    · exfalso
      rcases hful with ⟨hFn, _⟩ | ⟨i2, hFi2, hgt⟩
      · rw [hFi] at hFn; exact nomatch hFn
      · rw [hFi] at hFi2; cases hFi2; omega
theorem lw_fg (hI : INV n wd ct pa nm dp ki m) (hfk : ∀ j, j < m → fk j = some (ea (ki j))) {a m2 : Nat} {fk2 : Nat → Option Nat} {oc2 c2 : Nat → Nat}
    (h1 : ((rv = nI 0 ∧ gw a ∧ (∃ i p, ffi (fun k => decide (wd k = a)) n = some i ∧ 0 < ct i ∧ fo2 0 = (nI (ct i)).toInt64 ∧ p < m ∧ ki p = i ∧ m2 = m - 1 ∧ oc2 = va_up ct i 0 ∧ ∀ j, j < m - 1 → fk2 j = some (ea (remF ki p j)))) ∨ (rv = nI 1 ∧ ¬ gw a ∧ m2 = m ∧ fk2 = fk ∧ oc2 = ct) ∨ (rv = nI 2 ∧ (gw a ∧ ∀ i, ffi (fun k => decide (wd k = a)) n = some i → ct i = 0) ∧ m2 = m ∧ fk2 = fk ∧ oc2 = ct)))
    (h2 : ((¬ gw a ∧ t2 = nI 1 ∧ c2 = ct) ∨ (gw a ∧ (∀ i, ffi (fun k => decide (wd k = a)) n = some i → ct i = 0) ∧ t2 = nI 2 ∧ c2 = ct) ∨ (gw a ∧ (∃ i, ffi (fun k => decide (wd k = a)) n = some i ∧ 0 < ct i ∧ t2 = nI 0 ∧ rb = nI (ct i) ∧ c2 = va_up ct i 0)))) :
    (t2 = rv ∧ (rv = 0 → fo2 0 = (rb).toInt64)) ∧ oc2 = c2 ∧ ∃ ki2, INV n wd c2 pa nm dp ki2 m2 ∧ (∀ j, j < m2 → fk2 j = some (ea (ki2 j))) := by
  have d10 : ¬ (nI 1 = (0 : Int32)) := by decide
  have d20 : ¬ (nI 2 = (0 : Int32)) := by decide
  rcases h1 with ⟨e1, hg, i, p, hFi, h0, hx8, hp, hki, em, eo, hf2⟩ | ⟨e1, hno, g1, g2, g3⟩ | ⟨e1, ⟨hg, hz⟩, g1, g2, g3⟩
  · rcases h2 with ⟨hno, _⟩ | ⟨_, hz, _⟩ | ⟨_, i2, hFi2, _, e2, eb, ec⟩
    · exact absurd hg hno
    · have := hz i hFi; omega
    · rw [hFi] at hFi2
      cases hFi2
      subst em; subst eo; subst ec
      exact ⟨⟨e2.trans e1.symm, fun _ => by rw [hx8, eb]⟩, rfl, remF ki p, inv_fg hI hp hki, hf2⟩
  · rcases h2 with ⟨_, e2, ec⟩ | ⟨hg, _⟩ | ⟨hg, _⟩
    · subst g1; subst g2; subst g3; subst ec
      exact ⟨⟨e2.trans e1.symm, fun h => absurd (e1.symm.trans h) d10⟩, rfl, ki, hI, hfk⟩
    · exact absurd hg hno
    · exact absurd hg hno
  · rcases h2 with ⟨hno, _⟩ | ⟨_, _, e2, ec⟩ | ⟨_, i2, hFi2, h0, _⟩
    · exact absurd hg hno
    · subst g1; subst g2; subst g3; subst ec
      exact ⟨⟨e2.trans e1.symm, fun h => absurd (e1.symm.trans h) d20⟩, rfl, ki, hI, hfk⟩
    · have := hz i2 hFi2; omega
end LW
