/-! a whole object, its state in numbers, what add and forget make of it -/
theorem cnt_cgx {P Q : Nat → Bool} {r : Nat} (h : ∀ j, j < r → P j = Q j) : cnt P r = cnt Q r :=
  Nat.le_antisymm (cnt_le_of (fun j hj hp => by rw [← h j hj]; exact hp)) (cnt_le_of (fun j hj hp => by rw [h j hj]; exact hp))
theorem q_lN (x : Int64) : ∃ a, a < 2 ^ 64 ∧ x = lN a := ⟨x.toBitVec.toNat, x.toBitVec.isLt, by
  apply Int64.toBitVec_inj.mp
  show x.toBitVec = BitVec.ofNat 64 x.toBitVec.toNat
  exact BitVec.eq_of_toNat_eq (by rw [BitVec.toNat_ofNat]; exact (Nat.mod_eq_of_lt x.toBitVec.isLt).symm)⟩
theorem rg_inj {f : Nat → Nat} {n : Nat} (h : (rg f n).Nodup) : ∀ i j, i < n → j < n → f i = f j → i = j := fun i j hi hj e =>
  (List.getElem?_inj (by rw [rg_len]; exact hi) h).mp (by rw [rg_get hi, rg_get hj, e])
theorem inv_00 {pa : Nat → Option Nat} : INV 0 (fun _ => 0) (fun _ => 0) pa (fun _ => 0) (fun _ => 0) (fun _ => 0) 0 :=
  inv_cg inv_0 (fun k h => absurd h (Nat.not_lt_zero k)) (fun k h => absurd h (Nat.not_lt_zero k)) (fun k h => absurd h (Nat.not_lt_zero k)) (fun _ => rfl) (fun k h => absurd h (Nat.not_lt_zero k)) (fun j h => absurd h (Nat.not_lt_zero j))
theorem inv_dp {n m : Nat} {wd ct : Nat → Nat} {pa : Nat → Option Nat} {nm dp ki : Nat → Nat} (h : INV n wd ct pa nm dp ki m) : ∀ k, k < n → dp k ≤ 40 := by
  obtain ⟨h1, h2, h3, h4, h5, h6, h7, h8, h9, hK, hS⟩ := h
  have key : ∀ k, k < n → dp k ≤ k := by
    intro k
    induction k using Nat.strongRecOn with
    | ind k ih =>
      intro hk
      have h := h9 k hk
      cases e : pa k with
      | none => rw [h.1 e]; exact Nat.zero_le _
      | some q =>
        have hq := h5 k q hk e
        have := ih q hq (by omega)
        rw [h.2 q e]; omega
  intro k hk
  have := key k hk
  omega
/-- an object's cells -/
def OW (xo gg gr ce tr sh ar ti n1 l1 s2 a2 s3 a3 n2 l2 : Nat) (cG cS cJ1 cS2 cS3 cJ2 : ClassId) (n : Nat) (m : Nat) (ea : Nat → Nat) (wa : Nat → Nat) (pf : Nat → Option Nat) (cn : Nat → Nat) (dp : Nat → Nat) (oc : Nat → Nat) (ic : Nat → Int32) (lf : Nat → Int32) (pt : Nat → Int32) (wd : Nat → Nat) (fc : Nat → Int32) (f : Nat → Option Nat) (fN : Nat → Int64) (z1 : Int32) (fk : Nat → Option Nat) (fr : Nat → Option Nat) (z3 : Int32) (fs : Nat → Int64) (z2 : Int32) : va_W := [(xo, .inr (8, [.ref gg, .ref tr, .ref ti, .ref s2, .ref s3, .ref n2])), (gg, .inr (1, [.ref gr])), (gr, .inr (2, [.ref ce])), (ce, .inl (cG, 121, .inl fc)), (tr, .inr (5, [.ref sh])), (sh, .inr (4, [.ref ar, .int (nI n)])), (ar, .inl (cS, 40, .inr (.inr (.inr (.inr f))))), (ti, .inr (6, [.ref n1])), (n1, .inr (3, [.ref l1, .int z1])), (l1, .inl (cJ1, 401, .inr (.inl fN))), (s2, .inr (4, [.ref a2, .int (nI m)])), (a2, .inl (cS2, 40, .inr (.inr (.inr (.inr fk))))), (s3, .inr (4, [.ref a3, .int z3])), (a3, .inl (cS3, 40, .inr (.inr (.inr (.inr fr))))), (n2, .inr (3, [.ref l2, .int z2])), (l2, .inl (cJ2, 56, .inr (.inl fs)))] ++ (EW ea wa pf cn dp oc ic lf pt n ++ WW wa wd n)
/-- .. that hold a state -/
def OBJ (xo gg gr ce tr sh ar ti n1 l1 s2 a2 s3 a3 n2 l2 : Nat) (cG cS cJ1 cS2 cS3 cJ2 : ClassId) (n m : Nat) (wd ct : Nat → Nat) (pa : Nat → Option Nat) (nm dp ki : Nat → Nat) (X : va_W) : Prop := ∃ (ea : Nat → Nat) (wa : Nat → Nat) (ic : Nat → Int32) (lf : Nat → Int32) (pt : Nat → Int32) (fc : Nat → Int32) (f : Nat → Option Nat) (fN : Nat → Int64) (z1 : Int32) (fk : Nat → Option Nat) (fr : Nat → Option Nat) (z3 : Int32) (fs : Nat → Int64) (z2 : Int32), X = OW xo gg gr ce tr sh ar ti n1 l1 s2 a2 s3 a3 n2 l2 cG cS cJ1 cS2 cS3 cJ2 n m ea wa (fun k => (pa k).map ea) nm dp ct ic lf pt wd fc f fN z1 fk fr z3 fs z2 ∧ (∀ j, j < n → f j = some (ea j)) ∧ (∀ j, j < m → fk j = some (ea (ki j)))
section OO
variable {xo gg gr ce tr sh ar ti n1 l1 s2 a2 s3 a3 n2 l2 : Nat} {cG cS cJ1 cS2 cS3 cJ2 : ClassId} {n : Nat} {m : Nat} {ea : Nat → Nat} {wa : Nat → Nat} {pf : Nat → Option Nat} {cn : Nat → Nat} {dp : Nat → Nat} {oc : Nat → Nat} {ic : Nat → Int32} {lf : Nat → Int32} {pt : Nat → Int32} {wd : Nat → Nat} {fc : Nat → Int32} {f : Nat → Option Nat} {fN : Nat → Int64} {z1 : Int32} {fk : Nat → Option Nat} {fr : Nat → Option Nat} {z3 : Int32} {fs : Nat → Int64} {z2 : Int32}
theorem ow_fst : (OW xo gg gr ce tr sh ar ti n1 l1 s2 a2 s3 a3 n2 l2 cG cS cJ1 cS2 cS3 cJ2 n m ea wa pf cn dp oc ic lf pt wd fc f fN z1 fk fr z3 fs z2).map (·.1) = [xo, gg, gr, ce, tr, sh, ar, ti, n1, l1, s2, a2, s3, a3, n2, l2] ++ (rg ea n ++ rg wa n) := by
  unfold OW
  rw [List.map_append, List.map_append, EW_fst, WW_fst]; rfl
theorem ow_nd {A : Nat → Prop} (hD : va_D A (OW xo gg gr ce tr sh ar ti n1 l1 s2 a2 s3 a3 n2 l2 cG cS cJ1 cS2 cS3 cJ2 n m ea wa pf cn dp oc ic lf pt wd fc f fN z1 fk fr z3 fs z2)) : (([xo, gg, gr, ce, tr, sh, ar, ti, n1, l1, s2, a2, s3, a3, n2, l2] ++ (rg ea n ++ rg wa n)) ++ ([] : List Nat)).Nodup := by
  have h := q_nodD hD
  rw [ow_fst] at h
  rw [List.append_nil]; exact h
theorem ow_ei {A : Nat → Prop} (hD : va_D A (OW xo gg gr ce tr sh ar ti n1 l1 s2 a2 s3 a3 n2 l2 cG cS cJ1 cS2 cS3 cJ2 n m ea wa pf cn dp oc ic lf pt wd fc f fN z1 fk fr z3 fs z2)) : ∀ i j, i < n → j < n → ea i = ea j → i = j := by
  have h := q_nodD hD
  rw [ow_fst] at h
  exact rg_inj (List.nodup_append.mp (List.nodup_append.mp h).2.1).1
end OO
/-- what a word added makes of a state -/
def ADD (n m : Nat) (wd ct : Nat → Nat) (pa : Nat → Option Nat) (nm dp ki : Nat → Nat) (a v : Nat) (n' m' : Nat) (wd' ct' : Nat → Nat) (pa' : Nat → Option Nat) (nm' dp' ki' : Nat → Nat) (r : Int32) : Prop :=
  (∃ i, ffi (fun k => decide (wd k = a)) n = some i ∧ ct i + v ≤ 1000000 ∧ r = nI (ct i + v) ∧ n' = n ∧ wd' = wd ∧ ct' = va_up ct i (ct i + v) ∧ pa' = pa ∧ nm' = nm ∧ dp' = dp ∧ ((0 < ct i ∧ m' = m ∧ ki' = ki) ∨ (ct i = 0 ∧ m' = m + 1 ∧ ki' = insF ki (cnt (fun j => decide (al (wd (ki j)) < al (wd i))) m) i))) ∨
  (ffi (fun k => decide (wd k = a)) n = none ∧ n < 40 ∧ r = nI v ∧ n' = n + 1 ∧ m' = m + 1 ∧ wd' = va_up wd n a ∧ ct' = va_up ct n v ∧ pa' = va_up pa n (if n = 0 then none else some (plw (chf wd pa nm a n) n 0)) ∧ nm' = va_up nm n (if n = 0 then 0 else dst wd a (plw (chf wd pa nm a n) n 0)) ∧ dp' = va_up dp n (if n = 0 then 0 else dp (plw (chf wd pa nm a n) n 0) + 1) ∧ ki' = insF ki (cnt (fun j => decide (al (va_up wd n a (ki j)) < al (va_up wd n a n))) m) n)
def FGT (n m : Nat) (wd ct : Nat → Nat) (pa : Nat → Option Nat) (nm dp ki : Nat → Nat) (a : Nat) (m' : Nat) (ct' ki' : Nat → Nat) (r : Int32) : Prop :=
  ∃ i p, ffi (fun k => decide (wd k = a)) n = some i ∧ 0 < ct i ∧ r = nI (ct i) ∧ p < m ∧ ki p = i ∧ m' = m - 1 ∧ ct' = va_up ct i 0 ∧ ki' = remF ki p
theorem q_ne99 {x : Nat} (h : x < 2 ^ 31) : ¬ nI x = (-99999) := fun h9 => by
  have h7 : (nI x).toInt = (-99999 : Int32).toInt := congrArg Int32.toInt h9
  rw [nI_toInt h] at h7
  have : (-99999 : Int32).toInt = -99999 := by decide
  omega
section AF
variable {n m : Nat} {wd ct : Nat → Nat} {pa : Nat → Option Nat} {nm dp ki : Nat → Nat} {a v : Nat} {n2 m2 n3 m3 : Nat} {w2 c2 q2 d2 k2 w3 c3 q3 d3 k3 : Nat → Nat} {p2 p3 : Nat → Option Nat} {r2 r3 : Int32}
theorem add_uniq (h1 : ADD n m wd ct pa nm dp ki a v n2 m2 w2 c2 p2 q2 d2 k2 r2) (h2 : ADD n m wd ct pa nm dp ki a v n3 m3 w3 c3 p3 q3 d3 k3 r3) : n3 = n2 ∧ m3 = m2 ∧ w3 = w2 ∧ c3 = c2 ∧ p3 = p2 ∧ q3 = q2 ∧ d3 = d2 ∧ k3 = k2 ∧ r3 = r2 := by
  rcases h1 with ⟨i, e1, _, b1, b2, b3, b4, b5, b6, b7, b8⟩ | ⟨e1, _, b1, b2, b3, b4, b5, b6, b7, b8, b9⟩ <;> rcases h2 with ⟨j, e2, _, g1, g2, g3, g4, g5, g6, g7, g8⟩ | ⟨e2, _, g1, g2, g3, g4, g5, g6, g7, g8, g9⟩
  · rw [e1] at e2
    cases e2
    rcases b8 with ⟨y1, y2, y3⟩ | ⟨y1, y2, y3⟩ <;> rcases g8 with ⟨z1, z2, z3⟩ | ⟨z1, z2, z3⟩
    · exact ⟨by rw [g2, b2], by rw [z2, y2], by rw [g3, b3], by rw [g4, b4], by rw [g5, b5], by rw [g6, b6], by rw [g7, b7], by rw [z3, y3], by rw [g1, b1]⟩
    · omega
    · omega
    · exact ⟨by rw [g2, b2], by rw [z2, y2], by rw [g3, b3], by rw [g4, b4], by rw [g5, b5], by rw [g6, b6], by rw [g7, b7], by rw [z3, y3], by rw [g1, b1]⟩
  · rw [e1] at e2; exact nomatch e2
  · rw [e1] at e2; exact nomatch e2
  · exact ⟨by rw [g2, b2], by rw [g3, b3], by rw [g4, b4], by rw [g5, b5], by rw [g6, b6], by rw [g7, b7], by rw [g8, b8], by rw [g9, b9], by rw [g1, b1]⟩
theorem add_no (h1 : ADD n m wd ct pa nm dp ki a v n2 m2 w2 c2 p2 q2 d2 k2 r2) (h : (ffi (fun k => decide (wd k = a)) n = none ∧ n = 40) ∨ ∃ i, ffi (fun k => decide (wd k = a)) n = some i ∧ 1000000 < ct i + v) : False := by
  rcases h1 with ⟨i, e1, h2, _⟩ | ⟨e1, h2, _⟩ <;> rcases h with ⟨e3, h4⟩ | ⟨j, e3, h4⟩
  · rw [e1] at e3; exact nomatch e3
  · rw [e1] at e3; cases e3; omega
  · omega
  · rw [e1] at e3; exact nomatch e3
theorem add_ne (hv : v ≤ 1000) (h1 : ADD n m wd ct pa nm dp ki a v n2 m2 w2 c2 p2 q2 d2 k2 r2) : ¬ r2 = (-99999) := by
  rcases h1 with ⟨i, _, h2, h3, _⟩ | ⟨_, _, h3, _⟩
  · rw [h3]; exact q_ne99 (by omega)
  · rw [h3]; exact q_ne99 (by omega)
theorem add_inv (hI : INV n wd ct pa nm dp ki m) (hB : BK n wd pa nm) (ha : gw a) (hv : 1 ≤ v ∧ v ≤ 1000) (h1 : ADD n m wd ct pa nm dp ki a v n2 m2 w2 c2 p2 q2 d2 k2 r2) : INV n2 w2 c2 p2 q2 d2 k2 m2 ∧ BK n2 w2 p2 q2 := by
  rcases h1 with ⟨i, e1, h0, _, b2, b3, b4, b5, b6, b7, b8⟩ | ⟨e1, h4, _, b2, b3, b4, b5, b6, b7, b8, b9⟩
  · subst b2; subst b3; subst b4; subst b5; subst b6; subst b7
    have hi := (ffi_some e1).1
    refine ⟨?_, hB⟩
    rcases b8 with ⟨y1, y2, y3⟩ | ⟨y1, y2, y3⟩
    · rw [y2, y3]; exact inv_old hI hi y1 ⟨by omega, h0⟩
    · rw [y2, y3]; exact inv_old0 hI hi y1 ⟨by omega, h0⟩
  · have hn : ∀ (g : Nat → Nat) (x : Nat), ∀ k, k < n → va_up g n x k = g k := fun g x k hk => q_upn (by omega)
    have hpn := hI.2.2.2.2.1
    have hN : (n = 0 ∧ va_up pa n (if n = 0 then none else some (plw (chf wd pa nm a n) n 0)) n = none ∧ va_up nm n (if n = 0 then 0 else dst wd a (plw (chf wd pa nm a n) n 0)) n = 0 ∧ va_up dp n (if n = 0 then 0 else dp (plw (chf wd pa nm a n) n 0) + 1) n = 0) ∨ (0 < n ∧ va_up pa n (if n = 0 then none else some (plw (chf wd pa nm a n) n 0)) n = some (plw (chf wd pa nm a n) n 0) ∧ va_up nm n (if n = 0 then 0 else dst wd a (plw (chf wd pa nm a n) n 0)) n = dst wd a (plw (chf wd pa nm a n) n 0) ∧ va_up dp n (if n = 0 then 0 else dp (plw (chf wd pa nm a n) n 0) + 1) n = dp (plw (chf wd pa nm a n) n 0) + 1) := by
      rw [q_ups, q_ups, q_ups]
      by_cases h0 : n = 0
      · exact Or.inl ⟨h0, if_pos h0, if_pos h0, if_pos h0⟩
      · exact Or.inr ⟨by omega, if_neg h0, if_neg h0, if_neg h0⟩
    have h1 := inv_new hI ha h4 e1 (v := v) ⟨by omega, by omega⟩ (p2 := va_up pa n (if n = 0 then none else some (plw (chf wd pa nm a n) n 0))) (nm2 := va_up nm n (if n = 0 then 0 else dst wd a (plw (chf wd pa nm a n) n 0))) (d2 := va_up dp n (if n = 0 then 0 else dp (plw (chf wd pa nm a n) n 0) + 1)) (fun k hk => q_upn (by omega)) (fun k hk => q_upn hk) (fun k hk => q_upn (by omega)) hN
    have h2 := bk_new (w2 := va_up wd n a) (p2 := va_up pa n (if n = 0 then none else some (plw (chf wd pa nm a n) n 0))) (nm2 := va_up nm n (if n = 0 then 0 else dst wd a (plw (chf wd pa nm a n) n 0))) hpn hB (fun k hk => q_upn (by omega)) q_ups (fun k hk => q_upn (by omega)) (fun k hk => q_upn (by omega)) (hN.elim (fun h => Or.inl ⟨h.1, h.2.1⟩) (fun h => Or.inr ⟨h.1, h.2.1, h.2.2.1⟩))
    rw [b2, b3, b4, b5, b6, b7, b8, b9]
    exact ⟨h1, h2⟩
theorem fgt_uniq (hI : INV n wd ct pa nm dp ki m) (h1 : FGT n m wd ct pa nm dp ki a m2 c2 k2 r2) (h2 : FGT n m wd ct pa nm dp ki a m3 c3 k3 r3) : m3 = m2 ∧ c3 = c2 ∧ k3 = k2 ∧ r3 = r2 := by
  have hSR := hI.2.2.2.2.2.2.2.2.2.2
  obtain ⟨i, p, e1, _, b1, b2, b3, b4, b5, b6⟩ := h1
  obtain ⟨j, q, e2, _, g1, g2, g3, g4, g5, g6⟩ := h2
  rw [e1] at e2
  cases e2
  have hpq := srt_inj hSR q p g2 b2 (g3.trans b3.symm)
  subst hpq
  exact ⟨by rw [g4, b4], by rw [g5, b5], by rw [g6, b6], by rw [g1, b1]⟩
theorem fgt_no (h1 : FGT n m wd ct pa nm dp ki a m2 c2 k2 r2) (h : ∀ i, ffi (fun k => decide (wd k = a)) n = some i → ct i = 0) : False := by
  obtain ⟨i, p, e1, h0, _⟩ := h1
  have := h i e1
  omega
theorem fgt_ne (hI : INV n wd ct pa nm dp ki m) (h1 : FGT n m wd ct pa nm dp ki a m2 c2 k2 r2) : ¬ r2 = (-99999) := by
  obtain ⟨i, p, e1, h0, h3, _⟩ := h1
  have := hI.2.2.2.1 i (ffi_some e1).1
  rw [h3]; exact q_ne99 (by omega)
theorem fgt_inv (hI : INV n wd ct pa nm dp ki m) (h1 : FGT n m wd ct pa nm dp ki a m2 c2 k2 r2) : INV n wd c2 pa nm dp k2 m2 := by
  obtain ⟨i, p, e1, h0, _, hp, hki, b4, b5, b6⟩ := h1
  rw [b4, b5, b6]
  exact inv_fg hI hp hki
end AF
section OA
variable {xo gg gr ce tr sh ar ti n1 l1 s2 a2 s3 a3 n2 l2 : Nat} {cG cS cJ1 cS2 cS3 cJ2 : ClassId} {n m : Nat} {wd ct : Nat → Nat} {pa : Nat → Option Nat} {nm dp ki : Nat → Nat} {ea : Nat → Nat} {wa : Nat → Nat} {ic : Nat → Int32} {lf : Nat → Int32} {pt : Nat → Int32} {fc : Nat → Int32} {f : Nat → Option Nat} {fN : Nat → Int64} {z1 : Int32} {fk : Nat → Option Nat} {fr : Nat → Option Nat} {z3 : Int32} {fs : Nat → Int64} {z2 : Int32} {a : Nat} {x9 rv : Int32}
theorem obj_add (hI : INV n wd ct pa nm dp ki m) (hfe : ∀ j, j < n → f j = some (ea j)) (hfk : ∀ j, j < m → fk j = some (ea (ki j))) {nq : Nat} {fq : Nat → Option Nat} {mq : Nat} {fkq : Nat → Option Nat} {kiq : Nat → Nat} {fcq : Nat → Int32} {eaq : Nat → Nat} {waq : Nat → Nat} {pfq : Nat → Option Nat} {cnq : Nat → Nat} {dpq : Nat → Nat} {ocq : Nat → Nat} {icq : Nat → Int32} {lfq : Nat → Int32} {ptq : Nat → Int32} {wdq : Nat → Nat} (h : ((∃ i, ffi (fun k => decide (wd k = a)) n = some i ∧ ct i + kz x9 ≤ 1000000 ∧ rv = nI (ct i + kz x9) ∧ nq = n ∧ fq = f ∧ eaq = ea ∧ pfq = (fun k => (pa k).map ea) ∧ cnq = nm ∧ dpq = dp ∧ wdq = wd ∧ ocq = va_up ct i (ct i + kz x9) ∧ ((0 < ct i ∧ mq = m ∧ fkq = fk ∧ kiq = ki) ∨ (ct i = 0 ∧ mq = m + 1 ∧ kiq = insF ki (cnt (fun j => decide (al (wd (ki j)) < al (wd i))) m) i ∧ ∀ j, j < m + 1 → fkq j = some (ea (kiq j))))) ∨ (ffi (fun k => decide (wd k = a)) n = none ∧ n < 40 ∧ rv = nI (kz x9) ∧ nq = n + 1 ∧ mq = m + 1 ∧ (∀ k, k < n → eaq k = ea k ∧ pfq k = (fun k => (pa k).map ea) k ∧ cnq k = nm k ∧ dpq k = dp k ∧ ocq k = ct k ∧ wdq k = wd k) ∧ ocq n = kz x9 ∧ wdq n = a ∧ ((n = 0 ∧ pfq n = none ∧ cnq n = 0 ∧ dpq n = 0) ∨ (0 < n ∧ pfq n = some (ea (plw (chf wd pa nm a n) n 0)) ∧ cnq n = dst wd a (plw (chf wd pa nm a n) n 0) ∧ dpq n = dp (plw (chf wd pa nm a n) n 0) + 1)) ∧ (∀ j, j < n + 1 → fq j = some (eaq j)) ∧ kiq = insF ki (cnt (fun j => decide (al (wdq (ki j)) < al (wdq n))) m) n ∧ ∀ j, j < m + 1 → fkq j = some (eaq (kiq j))))) :
    ∃ (wd' ct' : Nat → Nat) (pa' : Nat → Option Nat) (nm' dp' : Nat → Nat), ADD n m wd ct pa nm dp ki a (kz x9) nq mq wd' ct' pa' nm' dp' kiq rv ∧ OBJ xo gg gr ce tr sh ar ti n1 l1 s2 a2 s3 a3 n2 l2 cG cS cJ1 cS2 cS3 cJ2 nq mq wd' ct' pa' nm' dp' kiq (OW xo gg gr ce tr sh ar ti n1 l1 s2 a2 s3 a3 n2 l2 cG cS cJ1 cS2 cS3 cJ2 nq mq eaq waq pfq cnq dpq ocq icq lfq ptq wdq fcq fq fN z1 fkq fr z3 fs z2) := by
  obtain ⟨hn, hg, hwi, hct, hpn, hun, hnm, hnz, hdp, hKN, hSR⟩ := hI
  rcases h with ⟨i, hFi, hle, er, b1, b2, b3, b4, b5, b6, b7, b8, hc⟩ | ⟨hFn, hn4, er, b1, b2, b3, b4, b5, b6, b7, b8, b9⟩
  · subst b1; subst b2; subst b3; subst b4; subst b5; subst b6; subst b7; subst b8
    rcases hc with ⟨h0, z1, z2, z3⟩ | ⟨h0, z1, z2, z3⟩
    · subst z1; subst z2; subst z3
      exact ⟨_, _, _, _, _, Or.inl ⟨i, hFi, hle, er, rfl, rfl, rfl, rfl, rfl, rfl, Or.inl ⟨h0, rfl, rfl⟩⟩, _, _, _, _, _, _, _, _, _, _, _, _, _, _, rfl, hfe, hfk⟩
    · subst z1; subst z2
      exact ⟨_, _, _, _, _, Or.inl ⟨i, hFi, hle, er, rfl, rfl, rfl, rfl, rfl, rfl, Or.inr ⟨h0, rfl, rfl⟩⟩, _, _, _, _, _, _, _, _, _, _, _, _, _, _, rfl, hfe, z3⟩
  · subst b1; subst b2
    have hC := chf_lt (wd := wd) (nm := nm) (a := a) (n := n) hpn
    have hki : kiq = insF ki (cnt (fun j => decide (al (va_up wd n a (ki j)) < al (va_up wd n a n))) m) n := by
      rw [b8]
      refine congrArg (fun z => insF ki z n) (cnt_cgx (fun j hj => ?_))
      have h9 := (hKN.1 j hj).1
      rw [(b3 _ h9).2.2.2.2.2, b5, q_ups, q_upn (show ki j ≠ n by omega)]
    have e1 : EW eaq waq pfq cnq dpq ocq icq lfq ptq (n + 1) = EW eaq waq (fun k => (va_up pa n (if n = 0 then none else some (plw (chf wd pa nm a n) n 0)) k).map eaq) (va_up nm n (if n = 0 then 0 else dst wd a (plw (chf wd pa nm a n) n 0))) (va_up dp n (if n = 0 then 0 else dp (plw (chf wd pa nm a n) n 0) + 1)) (va_up ct n (kz x9)) icq lfq ptq (n + 1) := by
      refine EW_cg (fun k hk => ?_)
      by_cases e : k = n
      · subst e
        refine ⟨rfl, rfl, ?_, ?_, ?_, ?_, rfl, rfl, rfl⟩
        · show pfq k = (va_up pa k _ k).map eaq
          rw [q_ups]
          rcases b6 with ⟨y1, y2, _⟩ | ⟨y1, y2, _⟩
          · rw [y2, if_pos y1]; rfl
          · rw [y2, if_neg (by omega)]
            show some _ = some (eaq _)
            rw [(b3 _ (plw_lt hC _ _ y1)).1]
        · rw [q_ups]
          rcases b6 with ⟨y1, _, y3, _⟩ | ⟨y1, _, y3, _⟩
          · rw [y3, if_pos y1]
          · rw [y3, if_neg (by omega)]
        · rw [q_ups]
          rcases b6 with ⟨y1, _, _, y4⟩ | ⟨y1, _, _, y4⟩
          · rw [y4, if_pos y1]
          · rw [y4, if_neg (by omega)]
        · rw [q_ups]; exact b4
      · have hb := b3 k (by omega)
        refine ⟨rfl, rfl, ?_, ?_, ?_, ?_, rfl, rfl, rfl⟩
        · show pfq k = (va_up pa n _ k).map eaq
          rw [q_upn e, hb.2.1]
          show (pa k).map ea = _
          cases hp : pa k with
          | none => rfl
          | some q =>
            have := hpn k q (by omega) hp
            show some _ = some (eaq q)
            rw [(b3 q (by omega)).1]
        · rw [q_upn e]; exact hb.2.2.1
        · rw [q_upn e]; exact hb.2.2.2.1
        · rw [q_upn e]; exact hb.2.2.2.2.1
    have e2 : WW waq wdq (n + 1) = WW waq (va_up wd n a) (n + 1) := by
      refine WW_cg (fun k hk => ⟨rfl, ?_⟩)
      by_cases e : k = n
      · rw [e, b5, q_ups]
      · rw [(b3 k (by omega)).2.2.2.2.2, q_upn e]
    refine ⟨_, _, _, _, _, Or.inr ⟨hFn, hn4, er, rfl, rfl, rfl, rfl, rfl, rfl, rfl, hki⟩, eaq, waq, icq, lfq, ptq, fcq, fq, fN, z1, fkq, fr, z3, fs, z2, ?_, b7, b9⟩
    unfold OW
    rw [e1, e2]
theorem obj_fgt {m2 : Nat} {fk2 : Nat → Option Nat} {oc2 : Nat → Nat} (hfe : ∀ j, j < n → f j = some (ea j)) (h : ∃ i p, ffi (fun k => decide (wd k = a)) n = some i ∧ 0 < ct i ∧ rv = nI (ct i) ∧ p < m ∧ ki p = i ∧ m2 = m - 1 ∧ oc2 = va_up ct i 0 ∧ ∀ j, j < m - 1 → fk2 j = some (ea (remF ki p j))) :
    ∃ k2 : Nat → Nat, FGT n m wd ct pa nm dp ki a m2 oc2 k2 rv ∧ OBJ xo gg gr ce tr sh ar ti n1 l1 s2 a2 s3 a3 n2 l2 cG cS cJ1 cS2 cS3 cJ2 n m2 wd oc2 pa nm dp k2 (OW xo gg gr ce tr sh ar ti n1 l1 s2 a2 s3 a3 n2 l2 cG cS cJ1 cS2 cS3 cJ2 n m2 ea wa (fun k => (pa k).map ea) nm dp oc2 ic lf pt wd fc f fN z1 fk2 fr z3 fs z2) := by
  obtain ⟨i, p, e1, h0, h3, hp, hki, b4, b5, b6⟩ := h
  refine ⟨remF ki p, ⟨i, p, e1, h0, h3, hp, hki, b4, b5, rfl⟩, _, _, _, _, _, _, _, _, _, _, _, _, _, _, rfl, hfe, ?_⟩
  rw [b4]; exact b6
end OA
