/-! what the law keeps between two doings -/
def LWI (D : va_G) (s : State) (A : Nat → Prop) (xo gg gr ce tr sh ar ti n1 l1 s2 a2 s3 a3 n2 l2 mo mw mct mp mnm m1 m2 mt mk mr ml mq out : Nat) (cS cS2 cG cJ1 cS3 cJ2 k1 k2 k3 k4 k5 k6 k7 k8 k9c k10 k11 cO : ClassId) (H : Heap) (locs : List Loc) : Prop :=
  ∃ (n : Nat) (m : Nat) (wd : Nat → Nat) (ct : Nat → Nat) (pa : Nat → Option Nat) (nm : Nat → Nat) (dp : Nat → Nat) (ki : Nat → Nat) (ea : Nat → Nat) (wa : Nat → Nat) (ic : Nat → Int32) (lf : Nat → Int32) (pt : Nat → Int32) (f : Nat → Option Nat) (fk : Nat → Option Nat) (fc : Nat → Int32) (z1 : Int32) (fN : Nat → Int64) (z3 : Int32) (fr : Nat → Option Nat) (z2 : Int32) (fs : Nat → Int64) (th : Int32) (om : Int32) (tm : Int32) (u1 : Nat → Int32) (u2 : Nat → Int32) (u3 : Nat → Int32) (u4 : Nat → Int64) (u5 : Nat → Int64) (u6 : Nat → Int64) (fo : Nat → Int64), INV n wd ct pa nm dp ki m ∧ (∀ j, j < n → f j = some (ea j)) ∧ (∀ j, j < m → fk j = some (ea (ki j))) ∧ va_P D vwCl ([(xo, .inr (8, [.ref gg, .ref tr, .ref ti, .ref s2, .ref s3, .ref n2])), (gg, .inr (1, [.ref gr])), (gr, .inr (2, [.ref ce])), (ce, .inl (cG, 121, .inl fc)), (tr, .inr (5, [.ref sh])), (sh, .inr (4, [.ref ar, .int (nI n)])), (ar, .inl (cS, 40, .inr (.inr (.inr (.inr f))))), (ti, .inr (6, [.ref n1])), (n1, .inr (3, [.ref l1, .int z1])), (l1, .inl (cJ1, 401, .inr (.inl fN))), (s2, .inr (4, [.ref a2, .int (nI m)])), (a2, .inl (cS2, 40, .inr (.inr (.inr (.inr fk))))), (s3, .inr (4, [.ref a3, .int z3])), (a3, .inl (cS3, 40, .inr (.inr (.inr (.inr fr))))), (n2, .inr (3, [.ref l2, .int z2])), (l2, .inl (cJ2, 56, .inr (.inl fs))), (mo, .inr (9, [.int th, .int (nI n), .ref mw, .ref mct, .ref mp, .ref mnm, .ref m1, .ref m2, .int om, .int tm, .ref mt, .ref mk, .ref mr, .ref ml, .ref mq])), (mw, .inl (k1, 40, .inr (.inl (fun k9 => lN (wd k9))))), (mct, .inl (k2, 40, .inl (fun k9 => nI (ct k9)))), (mp, .inl (k3, 40, .inl (fun k9 => pin (pa k9)))), (mnm, .inl (k4, 40, .inl (fun k9 => nI (nm k9)))), (m1, .inl (k5, 11, .inl u1)), (m2, .inl (k6, 11, .inl u2)), (mt, .inl (k7, 121, .inl u3)), (mk, .inl (k8, 27, .inl (fun k9 => nI (kyf k9)))), (mr, .inl (k9c, 401, .inr (.inl u4))), (ml, .inl (k10, 64, .inr (.inl u5))), (mq, .inl (k11, 64, .inr (.inl u6))), (out, .inl (cO, 1, .inr (.inl fo)))] ++ (EW ea wa (fun k => (pa k).map ea) nm dp ct ic lf pt n ++ WW wa wd n)) H ∧ va_D A ([(xo, .inr (8, [.ref gg, .ref tr, .ref ti, .ref s2, .ref s3, .ref n2])), (gg, .inr (1, [.ref gr])), (gr, .inr (2, [.ref ce])), (ce, .inl (cG, 121, .inl fc)), (tr, .inr (5, [.ref sh])), (sh, .inr (4, [.ref ar, .int (nI n)])), (ar, .inl (cS, 40, .inr (.inr (.inr (.inr f))))), (ti, .inr (6, [.ref n1])), (n1, .inr (3, [.ref l1, .int z1])), (l1, .inl (cJ1, 401, .inr (.inl fN))), (s2, .inr (4, [.ref a2, .int (nI m)])), (a2, .inl (cS2, 40, .inr (.inr (.inr (.inr fk))))), (s3, .inr (4, [.ref a3, .int z3])), (a3, .inl (cS3, 40, .inr (.inr (.inr (.inr fr))))), (n2, .inr (3, [.ref l2, .int z2])), (l2, .inl (cJ2, 56, .inr (.inl fs))), (mo, .inr (9, [.int th, .int (nI n), .ref mw, .ref mct, .ref mp, .ref mnm, .ref m1, .ref m2, .int om, .int tm, .ref mt, .ref mk, .ref mr, .ref ml, .ref mq])), (mw, .inl (k1, 40, .inr (.inl (fun k9 => lN (wd k9))))), (mct, .inl (k2, 40, .inl (fun k9 => nI (ct k9)))), (mp, .inl (k3, 40, .inl (fun k9 => pin (pa k9)))), (mnm, .inl (k4, 40, .inl (fun k9 => nI (nm k9)))), (m1, .inl (k5, 11, .inl u1)), (m2, .inl (k6, 11, .inl u2)), (mt, .inl (k7, 121, .inl u3)), (mk, .inl (k8, 27, .inl (fun k9 => nI (kyf k9)))), (mr, .inl (k9c, 401, .inr (.inl u4))), (ml, .inl (k10, 64, .inr (.inl u5))), (mq, .inl (k11, 64, .inr (.inl u6))), (out, .inl (cO, 1, .inr (.inl fo)))] ++ (EW ea wa (fun k => (pa k).map ea) nm dp ct ic lf pt n ++ WW wa wd n)) ∧ va_S A s.heap H locs
/-- what holds all along -/
def LWE (p : Program) (l : Launch) (s : State) (mi9 : MethodId) (cM : Code) (D : va_G) (A : Nat → Prop) (b L : Nat) (xs : Nat → Int32) (tys : List (ClassId × FieldType)) : Prop :=
  p.tables.exec = Jvm.exec ∧ cM.code = cL_law ∧ cM.maxLocals = 8 ∧ s.vm.findClass RL = some mi9.cls ∧ (∀ w ∈ wsL_law, w.before #[Value.ref b] s = true) ∧ va_X b L xs s s.heap ∧ b < s.heap.size ∧ ¬ A b ∧ (∀ q : Nat, s.heap.size ≤ q → A q) ∧ va_K D vwCl tys s ∧ qN s ∧ qZ A s s.heap ∧ qT s ∧ l.stackTraces = false ∧ L ≤ 2560
/-- behind the switch all goes on -/
def LWK (p : Program) (l : Launch) (e : Env) (s : State) (mi9 : MethodId) (belowM : List Frame) (methM : Method) (cM : Code) (Q : State → Prop) (D : va_G) (A : Nat → Prop) (b i : Nat) (xo gg gr ce tr sh ar ti n1 l1 s2 a2 s3 a3 n2 l2 mo mw mct mp mnm m1 m2 mt mk mr ml mq out : Nat) (cS cS2 cG cJ1 cS3 cJ2 k1 k2 k3 k4 k5 k6 k7 k8 k9c k10 k11 cO : ClassId) (cells slots : Nat) : Prop :=
  ∀ (H2 : Heap) (locs2 : List Loc) (ls2 : Array Slot) (c92 s92 : Nat), LWI D s A xo gg gr ce tr sh ar ti n1 l1 s2 a2 s3 a3 n2 l2 mo mw mct mp mnm m1 m2 mt mk mr ml mq out cS cS2 cG cJ1 cS3 cJ2 k1 k2 k3 k4 k5 k6 k7 k8 k9c k10 k11 cO H2 locs2 → lv_has ls2 8 [(0, .ref b), (1, .ref xo), (2, .ref mo), (3, .ref out), (4, .int (nI i))] → c92 ≤ cells + 8 → s92 ≤ slots + 64 → W p l e room_1 s mi9 #[Value.ref b] belowM methM cM H2 locs2 c92 s92 Q (F0 mi9 1919 ls2 [])

set_option maxHeartbeats 4000000 in
set_option maxRecDepth 100000 in
/-- add -/
theorem lw_c136 {p : Program} {l : Launch} {e : Env} {s : State} {mi9 : MethodId} {belowM : List Frame} {methM : Method} {cM : Code} {Q : State → Prop} {D : va_G} {A : Nat → Prop} {b L i : Nat} {xs : Nat → Int32} {xo gg gr ce tr sh ar ti n1 l1 s2 a2 s3 a3 n2 l2 mo mw mct mp mnm m1 m2 mt mk mr ml mq out : Nat} {cS cS2 cG cJ1 cS3 cJ2 k1 k2 k3 k4 k5 k6 k7 k8 k9c k10 k11 cO : ClassId} {H : Heap} {locs : List Loc} {ls : Array Slot} {cells slots : Nat} (hE : LWE p l s mi9 cM D A b L xs [(cG, .int), (cS, .object "FuzzyFens$Entry"), (cJ1, .long), (cS2, .object "FuzzyFens$Entry"), (cS3, .object "FuzzyFens$Entry"), (cJ2, .long), (k1, .long), (k2, .int), (k3, .int), (k4, .int), (k5, .int), (k6, .int), (k7, .int), (k8, .int), (k9c, .long), (k10, .long), (k11, .long), (cO, .long)]) (hi : i + 5 ≤ L) (hW : LWI D s A xo gg gr ce tr sh ar ti n1 l1 s2 a2 s3 a3 n2 l2 mo mw mct mp mnm m1 m2 mt mk mr ml mq out cS cS2 cG cJ1 cS3 cJ2 k1 k2 k3 k4 k5 k6 k7 k8 k9c k10 k11 cO H locs) (hl : lv_has ls 8 [(0, .ref b), (1, .ref xo), (2, .ref mo), (3, .ref out), (4, .int (nI i))]) (hc9 : cells + 8 ≤ 601024) (hs9 : slots + 64 ≤ 7293034) (K : LWK p l e s mi9 belowM methM cM Q D A b i xo gg gr ce tr sh ar ti n1 l1 s2 a2 s3 a3 n2 l2 mo mw mct mp mnm m1 m2 mt mk mr ml mq out cS cS2 cG cJ1 cS3 cJ2 k1 k2 k3 k4 k5 k6 k7 k8 k9c k10 k11 cO cells slots) : W p l e room_1 s mi9 #[Value.ref b] belowM methM cM H locs cells slots Q (F0 mi9 136 ls []) := by
  obtain ⟨hx, hb, hml, hown, hts, hX, hbl, hbA, hA, hK, hNw, hZ, hXt, hst, hL⟩ := hE
  obtain ⟨n, m, wd, ct, pa, nm, dp, ki, ea, wa, ic, lf, pt, f, fk, fc, z1, fN, z3, fr, z2, fs, th, om, tm, u1, u2, u3, u4, u5, u6, fo, hI, hfe, hfk, hP, hD, hS⟩ := hW
  have hI0 := hI
  obtain ⟨hn40, hg, hwi, hct, hpn, hun, hnm, hnz, hdp, hKN, hSR⟩ := hI0
  have hmn := kn_le hKN hSR
  have hm : m ≤ 40 := Nat.le_trans hmn hn40
  have hki : ∀ j, j < m → ki j < n := fun j h => (hKN.1 j h).1
  have hcb : ∀ k, k < n → ct k < 2 ^ 31 := fun k h => by have := hct k h; omega
  have hnb : ∀ k, k < n → nm k < 2 ^ 31 := fun k h => by have := hnm k h; omega
  have hmz : ∀ i, i < n → ct i = 0 → m < n := fun i h h0 => kn_lt hKN hSR h h0
  have hkinj := srt_inj hSR
  have hkn := hKN.2
  have heai := q_poolinj hD
  have hR0 : va_P D vwCl [] s.heap := q_Pof (fun _ h => absurd h List.not_mem_nil)
  have hR := hR0
  have hna : ∀ q ∈ ([] : va_W), ¬ A q.1 := fun q h => absurd h List.not_mem_nil
  have hnR : (([] : va_W).map (·.1)).Nodup := List.nodup_nil
  refine lv_aload_n hx hb dL_law_136 rfl (lv_at hl 1 rfl) ?_
  refine lv_aload_n hx hb dL_law_137 rfl (lv_at hl 0 rfl) ?_
  refine lv_iload hx hb dL_law_138 (lv_at hl 4 rfl) ?_
  refine lv_iconst (v := nI 1) hx hb dL_law_140 (by decide) ?_
  refine q_iadd (d := i + 1) hx hb dL_law_141 (by omega) ?_
  refine va_sld hx hb hX hbl hbA hS (vp_in_nI (n := i + 1) (N := L) (by omega) (by omega)) dL_law_142 ?_
  rw [nI_clamp (n := i + 1) (by omega)]
  refine lv_i2l hx hb dL_law_143 rfl ?_
  refine lv_bipush (v := nI 32) hx hb dL_law_144 (by decide) ?_
  refine lv_lshl hx hb dL_law_146 rfl ?_
  refine lv_aload_n hx hb dL_law_147 rfl (lv_at hl 0 rfl) ?_
  refine lv_iload hx hb dL_law_148 (lv_at hl 4 rfl) ?_
  refine lv_iconst (v := nI 2) hx hb dL_law_150 (by decide) ?_
  refine q_iadd (d := i + 2) hx hb dL_law_151 (by omega) ?_
  refine va_sld hx hb hX hbl hbA hS (vp_in_nI (n := i + 2) (N := L) (by omega) (by omega)) dL_law_152 ?_
  rw [nI_clamp (n := i + 2) (by omega)]
  refine lv_i2l hx hb dL_law_153 rfl ?_
  refine lv_ldc2 (v := 4294967295) hx hb hown (hts (.constantLong RL 80 (4294967295)) (List.mem_of_getElem? (i := 7) rfl)) dL_law_154 ?_
  refine q_cvl (show (4294967295 : Int64) = lN 4294967295 by decide) ?_
  refine lv_land hx hb dL_law_157 ?_
  refine lv_lor hx hb dL_law_158 ?_
  obtain ⟨a, ha, hqa⟩ := q_lN ((((xs (i + 1)).toInt64) <<< ((nI 32).toInt64 &&& 63)) ||| (((xs (i + 2)).toInt64) &&& (lN 4294967295)))
  refine q_cvl hqa ?_
  refine lv_aload_n hx hb dL_law_159 rfl (lv_at hl 0 rfl) ?_
  refine lv_iload hx hb dL_law_160 (lv_at hl 4 rfl) ?_
  refine lv_iconst (v := nI 3) hx hb dL_law_162 (by decide) ?_
  refine q_iadd (d := i + 3) hx hb dL_law_163 (by omega) ?_
  refine va_sld hx hb hX hbl hbA hS (vp_in_nI (n := i + 3) (N := L) (by omega) (by omega)) dL_law_164 ?_
  rw [nI_clamp (n := i + 3) (by omega)]
  refine lv_aload_n hx hb dL_law_165 rfl (lv_at hl 3 rfl) ?_
  have hF := q_freeT (X := [(xo, .inr (8, [.ref gg, .ref tr, .ref ti, .ref s2, .ref s3, .ref n2])), (gg, .inr (1, [.ref gr])), (gr, .inr (2, [.ref ce])), (ce, .inl (cG, 121, .inl fc)), (tr, .inr (5, [.ref sh])), (sh, .inr (4, [.ref ar, .int (nI n)])), (ar, .inl (cS, 40, .inr (.inr (.inr (.inr f))))), (ti, .inr (6, [.ref n1])), (n1, .inr (3, [.ref l1, .int z1])), (l1, .inl (cJ1, 401, .inr (.inl fN))), (s2, .inr (4, [.ref a2, .int (nI m)])), (a2, .inl (cS2, 40, .inr (.inr (.inr (.inr fk))))), (s3, .inr (4, [.ref a3, .int z3])), (a3, .inl (cS3, 40, .inr (.inr (.inr (.inr fr))))), (n2, .inr (3, [.ref l2, .int z2])), (l2, .inl (cJ2, 56, .inr (.inl fs))), (mo, .inr (9, [.int th, .int (nI n), .ref mw, .ref mct, .ref mp, .ref mnm, .ref m1, .ref m2, .int om, .int tm, .ref mt, .ref mk, .ref mr, .ref ml, .ref mq])), (mw, .inl (k1, 40, .inr (.inl (fun k9 => lN (wd k9))))), (mct, .inl (k2, 40, .inl (fun k9 => nI (ct k9)))), (mp, .inl (k3, 40, .inl (fun k9 => pin (pa k9)))), (mnm, .inl (k4, 40, .inl (fun k9 => nI (nm k9)))), (m1, .inl (k5, 11, .inl u1)), (m2, .inl (k6, 11, .inl u2)), (mt, .inl (k7, 121, .inl u3)), (mk, .inl (k8, 27, .inl (fun k9 => nI (kyf k9)))), (mr, .inl (k9c, 401, .inr (.inl u4))), (ml, .inl (k10, 64, .inr (.inl u5))), (mq, .inl (k11, 64, .inr (.inl u6))), (out, .inl (cO, 1, .inr (.inl fo)))]) (T := (EW ea wa (fun k => (pa k).map ea) nm dp ct ic lf pt n ++ WW wa wd n)) (cx := [(out, .inl (cO, 1, .inr (.inl fo))), (sh, .inr (4, [.ref ar, .int (nI n)])), (ar, .inl (cS, 40, .inr (.inr (.inr (.inr f))))), (s2, .inr (4, [.ref a2, .int (nI m)])), (a2, .inl (cS2, 40, .inr (.inr (.inr (.inr fk))))), (ce, .inl (cG, 121, .inl fc))]) hD hS hA [28, 5, 6, 10, 11, 3] rfl
  refine va_calli (vx_runSW (As := [.ref xo, .long (lN a), .int (xs (i + 3)), .ref out]) (rest := []) ⟨hx, hb, hml, hown, hts⟩ (c_L_add (l := l) (D := D) (xo := xo) (gg := gg) (gr := gr) (ce := ce) (tr := tr) (sh := sh) (ar := ar) (ti := ti) (n1 := n1) (l1 := l1) (s2 := s2) (a2 := a2) (s3 := s3) (a3 := a3) (n2 := n2) (l2 := l2) (cS := cS) (f := f) (cS2 := cS2) (fk := fk) (m := m) (ki := ki) (cG := cG) (fc := fc) (ea := ea) (wa := wa) (pf := (fun k => (pa k).map ea)) (cn := nm) (dp := dp) (oc := ct) (ic := ic) (lf := lf) (pt := pt) (wd := wd) (n := n) (pi := pa) (a := a) (x9 := xs (i + 3)) (out := out) (cO := cO) (fo := fo) (sz := H.size) (hnd := (q_ndws (q_ndt (a' := [out, sh, ar, s2, a2, ce]) (b' := [xo, gg, gr, tr]) (q_ndsw (q_ndg (l1 := [xo, gg, gr, ce, tr, sh, ar, ti, n1, l1, s2, a2, s3, a3, n2, l2, mo, mw, mct, mp, mnm, m1, m2, mt, mk, mr, ml, mq, out] ++ (rg ea n ++ rg wa n)) (l2 := []) hD hnR hna (by rw [List.map_append, List.map_append, EW_fst, WW_fst]; rfl) rfl)) [28, 5, 6, 10, 11, 3, 0, 1, 2, 4] rfl rfl))) (hst := hst) (ha := by omega) (hfe := hfe) (hn40 := hn40) (hg := hg) (hm := hm) (hf := hfk) (hki := hki) (hob := hct) (hinj := heai) (hpi := (fun _ _ => rfl)) (hpn := hpn) (hcb := hnm) (hmn := hmn) (hmz := hmz)) (vx_cwSW 4 hts gL_law_L_add rfl rfl rfl (by decide +kernel) ⟨Nat.le_of_ble_eq_true rfl, Nat.le_of_ble_eq_true rfl⟩) ⟨qWx_blind, (qWx_of (hP.sub (ws' := [(xo, .inr (8, [.ref gg, .ref tr, .ref ti, .ref s2, .ref s3, .ref n2])), (gg, .inr (1, [.ref gr])), (gr, .inr (2, [.ref ce])), (tr, .inr (5, [.ref sh]))]) [0, 1, 2, 4] rfl) (va_P.app (hP.sub (ws' := [(out, .inl (cO, 1, .inr (.inl fo))), (sh, .inr (4, [.ref ar, .int (nI n)])), (ar, .inl (cS, 40, .inr (.inr (.inr (.inr f))))), (s2, .inr (4, [.ref a2, .int (nI m)])), (a2, .inl (cS2, 40, .inr (.inr (.inr (.inr fk))))), (ce, .inl (cG, 121, .inl fc))]) [28, 5, 6, 10, 11, 3] rfl) (q_right hP)) (hK.sub (tys' := [(cO, .long), (cS, .object "FuzzyFens$Entry"), (cS2, .object "FuzzyFens$Entry"), (cG, .int)]) [17, 1, 3, 0] rfl) hNw (qZ_at hZ hS (fun q h => hF q h)) hXt)⟩ rfl rfl hl.1 rfl (lv_room (Nat.le_of_ble_eq_true rfl)) dL_law_166 ⟨by show _ ≤ 601024; omega, by show _ ≤ 7293034; omega⟩) hS (fun q _ h => hF q h) hF (fun rv8 u_5 t_4 H_2 locs_3 ht hvm hrv8 hB hz1 hk1 hS => ?_)
  obtain ⟨n8, f8, m8, fk8, ki8, fc8, ea8, wa8, pf8, cn8, dp8, oc8, ic8, lf8, pt8, wd8, fo8⟩ := u_5
  dsimp only at hrv8 hB
  obtain ⟨hB1, hB2⟩ := hB
  replace hB1 : va_P D vwCl ([(out, .inl (cO, 1, .inr (.inl fo8))), (sh, .inr (4, [.ref ar, .int (nI n8)])), (ar, .inl (cS, 40, .inr (.inr (.inr (.inr f8))))), (s2, .inr (4, [.ref a2, .int (nI m8)])), (a2, .inl (cS2, 40, .inr (.inr (.inr (.inr fk8))))), (ce, .inl (cG, 121, .inl fc8))] ++ (EW ea8 wa8 pf8 cn8 dp8 oc8 ic8 lf8 pt8 n8 ++ WW wa8 wd8 n8)) H_2 := by rw [← ht]; exact hB1
  obtain ⟨hP, hD⟩ := q_joinG (X := [(xo, .inr (8, [.ref gg, .ref tr, .ref ti, .ref s2, .ref s3, .ref n2])), (gg, .inr (1, [.ref gr])), (gr, .inr (2, [.ref ce])), (ce, .inl (cG, 121, .inl fc)), (tr, .inr (5, [.ref sh])), (sh, .inr (4, [.ref ar, .int (nI n)])), (ar, .inl (cS, 40, .inr (.inr (.inr (.inr f))))), (ti, .inr (6, [.ref n1])), (n1, .inr (3, [.ref l1, .int z1])), (l1, .inl (cJ1, 401, .inr (.inl fN))), (s2, .inr (4, [.ref a2, .int (nI m)])), (a2, .inl (cS2, 40, .inr (.inr (.inr (.inr fk))))), (s3, .inr (4, [.ref a3, .int z3])), (a3, .inl (cS3, 40, .inr (.inr (.inr (.inr fr))))), (n2, .inr (3, [.ref l2, .int z2])), (l2, .inl (cJ2, 56, .inr (.inl fs))), (mo, .inr (9, [.int th, .int (nI n), .ref mw, .ref mct, .ref mp, .ref mnm, .ref m1, .ref m2, .int om, .int tm, .ref mt, .ref mk, .ref mr, .ref ml, .ref mq])), (mw, .inl (k1, 40, .inr (.inl (fun k9 => lN (wd k9))))), (mct, .inl (k2, 40, .inl (fun k9 => nI (ct k9)))), (mp, .inl (k3, 40, .inl (fun k9 => pin (pa k9)))), (mnm, .inl (k4, 40, .inl (fun k9 => nI (nm k9)))), (m1, .inl (k5, 11, .inl u1)), (m2, .inl (k6, 11, .inl u2)), (mt, .inl (k7, 121, .inl u3)), (mk, .inl (k8, 27, .inl (fun k9 => nI (kyf k9)))), (mr, .inl (k9c, 401, .inr (.inl u4))), (ml, .inl (k10, 64, .inr (.inl u5))), (mq, .inl (k11, 64, .inr (.inl u6))), (out, .inl (cO, 1, .inr (.inl fo)))]) (T := (EW ea wa (fun k => (pa k).map ea) nm dp ct ic lf pt n ++ WW wa wd n)) (cx := [(out, .inl (cO, 1, .inr (.inl fo))), (sh, .inr (4, [.ref ar, .int (nI n)])), (ar, .inl (cS, 40, .inr (.inr (.inr (.inr f))))), (s2, .inr (4, [.ref a2, .int (nI m)])), (a2, .inl (cS2, 40, .inr (.inr (.inr (.inr fk))))), (ce, .inl (cG, 121, .inl fc))]) (cx' := [(out, .inl (cO, 1, .inr (.inl fo8))), (sh, .inr (4, [.ref ar, .int (nI n8)])), (ar, .inl (cS, 40, .inr (.inr (.inr (.inr f8))))), (s2, .inr (4, [.ref a2, .int (nI m8)])), (a2, .inl (cS2, 40, .inr (.inr (.inr (.inr fk8))))), (ce, .inl (cG, 121, .inl fc8))]) (T' := (EW ea8 wa8 pf8 cn8 dp8 oc8 ic8 lf8 pt8 n8 ++ WW wa8 wd8 n8)) (X' := [(xo, .inr (8, [.ref gg, .ref tr, .ref ti, .ref s2, .ref s3, .ref n2])), (gg, .inr (1, [.ref gr])), (gr, .inr (2, [.ref ce])), (ce, .inl (cG, 121, .inl fc8)), (tr, .inr (5, [.ref sh])), (sh, .inr (4, [.ref ar, .int (nI n8)])), (ar, .inl (cS, 40, .inr (.inr (.inr (.inr f8))))), (ti, .inr (6, [.ref n1])), (n1, .inr (3, [.ref l1, .int z1])), (l1, .inl (cJ1, 401, .inr (.inl fN))), (s2, .inr (4, [.ref a2, .int (nI m8)])), (a2, .inl (cS2, 40, .inr (.inr (.inr (.inr fk8))))), (s3, .inr (4, [.ref a3, .int z3])), (a3, .inl (cS3, 40, .inr (.inr (.inr (.inr fr))))), (n2, .inr (3, [.ref l2, .int z2])), (l2, .inl (cJ2, 56, .inr (.inl fs))), (mo, .inr (9, [.int th, .int (nI n), .ref mw, .ref mct, .ref mp, .ref mnm, .ref m1, .ref m2, .int om, .int tm, .ref mt, .ref mk, .ref mr, .ref ml, .ref mq])), (mw, .inl (k1, 40, .inr (.inl (fun k9 => lN (wd k9))))), (mct, .inl (k2, 40, .inl (fun k9 => nI (ct k9)))), (mp, .inl (k3, 40, .inl (fun k9 => pin (pa k9)))), (mnm, .inl (k4, 40, .inl (fun k9 => nI (nm k9)))), (m1, .inl (k5, 11, .inl u1)), (m2, .inl (k6, 11, .inl u2)), (mt, .inl (k7, 121, .inl u3)), (mk, .inl (k8, 27, .inl (fun k9 => nI (kyf k9)))), (mr, .inl (k9c, 401, .inr (.inl u4))), (ml, .inl (k10, 64, .inr (.inl u5))), (mq, .inl (k11, 64, .inr (.inl u6))), (out, .inl (cO, 1, .inr (.inl fo8)))]) [28, 5, 6, 10, 11, 3] hP hD rfl rfl hk1 hF hB1 hB2 rfl
  have hR := q_ro hR0 hna hS
  have hF8 := hrv8
  refine lv_istore (lv' := [(5, .int rv8), (0, .ref b), (1, .ref xo), (2, .ref mo), (3, .ref out), (4, .int (nI i))]) hx hb dL_law_169 hl (by decide) rfl (fun ls hl => ?_)
  refine lv_aload_n hx hb dL_law_171 rfl (lv_at hl 3 rfl) ?_
  refine lv_aload_n hx hb dL_law_172 rfl (lv_at hl 1 rfl) ?_
  refine lv_iload hx hb dL_law_173 (lv_at hl 5 rfl) ?_
  refine lv_iconst (v := nI 1) hx hb dL_law_175 (by decide) ?_
  refine q_iadd (d := i + 1) hx hb dL_law_176 (by omega) ?_
  refine va_sld hx hb hX hbl hbA hS (vp_in_nI (n := i + 1) (N := L) (by omega) (by omega)) dL_law_177 ?_
  rw [nI_clamp (n := i + 1) (by omega)]
  refine lv_i2l hx hb dL_law_178 rfl ?_
  refine lv_bipush (v := nI 32) hx hb dL_law_179 (by decide) ?_
  refine lv_lshl hx hb dL_law_181 rfl ?_
  refine lv_aload_n hx hb dL_law_182 rfl (lv_at hl 1 rfl) ?_
  refine lv_iload hx hb dL_law_183 (lv_at hl 5 rfl) ?_
  refine lv_iconst (v := nI 2) hx hb dL_law_185 (by decide) ?_
  refine q_iadd (d := i + 2) hx hb dL_law_186 (by omega) ?_
  refine va_sld hx hb hX hbl hbA hS (vp_in_nI (n := i + 2) (N := L) (by omega) (by omega)) dL_law_187 ?_
  rw [nI_clamp (n := i + 2) (by omega)]
  refine lv_i2l hx hb dL_law_188 rfl ?_
  refine lv_ldc2 (v := 4294967295) hx hb hown (hts (.constantLong RL 80 (4294967295)) (List.mem_of_getElem? (i := 7) rfl)) dL_law_189 ?_
  refine q_cvl (show (4294967295 : Int64) = lN 4294967295 by decide) ?_
  refine lv_land hx hb dL_law_192 ?_
  refine lv_lor hx hb dL_law_193 ?_
  refine q_cvl hqa ?_
  refine lv_aload_n hx hb dL_law_194 rfl (lv_at hl 1 rfl) ?_
  refine lv_iload hx hb dL_law_195 (lv_at hl 5 rfl) ?_
  refine lv_iconst (v := nI 3) hx hb dL_law_197 (by decide) ?_
  refine q_iadd (d := i + 3) hx hb dL_law_198 (by omega) ?_
  refine va_sld hx hb hX hbl hbA hS (vp_in_nI (n := i + 3) (N := L) (by omega) (by omega)) dL_law_199 ?_
  rw [nI_clamp (n := i + 3) (by omega)]
  have hF := va_free (wc := [(mo, .inr (9, [.int th, .int (nI n), .ref mw, .ref mct, .ref mp, .ref mnm, .ref m1, .ref m2, .int om, .int tm, .ref mt, .ref mk, .ref mr, .ref ml, .ref mq])), (m1, .inl (k5, 11, .inl u1)), (m2, .inl (k6, 11, .inl u2)), (mt, .inl (k7, 121, .inl u3)), (mw, .inl (k1, 40, .inr (.inl (fun k9 => lN (wd k9))))), (mct, .inl (k2, 40, .inl (fun k9 => nI (ct k9)))), (mp, .inl (k3, 40, .inl (fun k9 => pin (pa k9)))), (mnm, .inl (k4, 40, .inl (fun k9 => nI (nm k9))))]) hD hS hA [16, 21, 22, 23, 17, 18, 19, 20] rfl
  refine va_calli (va_runV (As := [.long (lN a), .int (xs (i + 3))]) (rest := []) ⟨hx, hb, hml, hown, hts⟩ (c_X10_add (l := l) (D := D) (mo := mo) (mw := mw) (mct := mct) (mp := mp) (mnm := mnm) (m1 := m1) (m2 := m2) (mt := mt) (mk := mk) (mr := mr) (ml := ml) (mq := mq) (k1 := k1) (k2 := k2) (k3 := k3) (k4 := k4) (k5 := k5) (k6 := k6) (k7 := k7) (th := th) (n := n) (om := om) (tm := tm) (f1 := u1) (f2 := u2) (ft := u3) (wd := wd) (ct := ct) (pa := pa) (nm := nm) (a := a) (x9 := xs (i + 3)) (sz := H_2.size) (hnd := (q_nds (q_ndl (q_ndsw (q_ndg (l1 := [xo, gg, gr, ce, tr, sh, ar, ti, n1, l1, s2, a2, s3, a3, n2, l2, mo, mw, mct, mp, mnm, m1, m2, mt, mk, mr, ml, mq, out] ++ (rg ea8 n8 ++ rg wa8 n8)) (l2 := []) hD hnR hna (by rw [List.map_append, List.map_append, EW_fst, WW_fst]; rfl) rfl))) [16, 21, 22, 23, 17, 18, 19, 20] rfl rfl)) (ha := by omega) (hn40 := hn40) (hcm := hct) (hgw := hg) (hnb := hnb) (hpn := hpn) (hun := hun) (hinj := hwi)) (cwV 2 hts gL_law_X10_add rfl rfl rfl (by decide +kernel) ⟨Nat.le_of_ble_eq_true rfl, Nat.le_of_ble_eq_true rfl⟩) ⟨qW_blind, (va_recv hK hP (ci := 9) (q0 := 16) rfl rfl), (qW_of (q_Pof (fun _ h => absurd h List.not_mem_nil)) (hP.sub (ws' := [(mo, .inr (9, [.int th, .int (nI n), .ref mw, .ref mct, .ref mp, .ref mnm, .ref m1, .ref m2, .int om, .int tm, .ref mt, .ref mk, .ref mr, .ref ml, .ref mq])), (m1, .inl (k5, 11, .inl u1)), (m2, .inl (k6, 11, .inl u2)), (mt, .inl (k7, 121, .inl u3)), (mw, .inl (k1, 40, .inr (.inl (fun k9 => lN (wd k9))))), (mct, .inl (k2, 40, .inl (fun k9 => nI (ct k9)))), (mp, .inl (k3, 40, .inl (fun k9 => pin (pa k9)))), (mnm, .inl (k4, 40, .inl (fun k9 => nI (nm k9))))]) [16, 21, 22, 23, 17, 18, 19, 20] rfl) (hK.sub (tys' := [(k5, .int), (k6, .int), (k7, .int), (k1, .long), (k2, .int), (k3, .int), (k4, .int)]) [10, 11, 12, 6, 7, 8, 9] rfl) hNw)⟩ rfl rfl hl.1 rfl (lv_room (Nat.le_of_ble_eq_true rfl)) dL_law_200 ⟨by show _ ≤ 601024; omega, by show _ ≤ 7293034; omega⟩) hS (fun q _ h => hF q h) hF (fun rb8 u_10 t_9 H_7 locs_8 ht hvm hrb8 hB hz1 hk1 hS => ?_)
  obtain ⟨t8, nn8, om8, tm8, u81, u82, u83, w8, ct8, p8, nm8⟩ := u_10
  dsimp only at hrb8 hB
  replace hB : va_P D vwCl [(mo, .inr (9, [.int t8, .int (nI nn8), .ref mw, .ref mct, .ref mp, .ref mnm, .ref m1, .ref m2, .int om8, .int tm8, .ref mt, .ref mk, .ref mr, .ref ml, .ref mq])), (m1, .inl (k5, 11, .inl u81)), (m2, .inl (k6, 11, .inl u82)), (mt, .inl (k7, 121, .inl u83)), (mw, .inl (k1, 40, .inr (.inl (fun k9 => lN (w8 k9))))), (mct, .inl (k2, 40, .inl (fun k9 => nI (ct8 k9)))), (mp, .inl (k3, 40, .inl (fun k9 => pin (p8 k9)))), (mnm, .inl (k4, 40, .inl (fun k9 => nI (nm8 k9))))] H_7 := by rw [← ht]; exact hB
  obtain ⟨hP, hD⟩ := q_join (wc := [(mo, .inr (9, [.int th, .int (nI n), .ref mw, .ref mct, .ref mp, .ref mnm, .ref m1, .ref m2, .int om, .int tm, .ref mt, .ref mk, .ref mr, .ref ml, .ref mq])), (m1, .inl (k5, 11, .inl u1)), (m2, .inl (k6, 11, .inl u2)), (mt, .inl (k7, 121, .inl u3)), (mw, .inl (k1, 40, .inr (.inl (fun k9 => lN (wd k9))))), (mct, .inl (k2, 40, .inl (fun k9 => nI (ct k9)))), (mp, .inl (k3, 40, .inl (fun k9 => pin (pa k9)))), (mnm, .inl (k4, 40, .inl (fun k9 => nI (nm k9))))]) (w1 := [(mo, .inr (9, [.int t8, .int (nI nn8), .ref mw, .ref mct, .ref mp, .ref mnm, .ref m1, .ref m2, .int om8, .int tm8, .ref mt, .ref mk, .ref mr, .ref ml, .ref mq])), (m1, .inl (k5, 11, .inl u81)), (m2, .inl (k6, 11, .inl u82)), (mt, .inl (k7, 121, .inl u83)), (mw, .inl (k1, 40, .inr (.inl (fun k9 => lN (w8 k9))))), (mct, .inl (k2, 40, .inl (fun k9 => nI (ct8 k9)))), (mp, .inl (k3, 40, .inl (fun k9 => pin (p8 k9)))), (mnm, .inl (k4, 40, .inl (fun k9 => nI (nm8 k9))))]) (ws' := [(xo, .inr (8, [.ref gg, .ref tr, .ref ti, .ref s2, .ref s3, .ref n2])), (gg, .inr (1, [.ref gr])), (gr, .inr (2, [.ref ce])), (ce, .inl (cG, 121, .inl fc8)), (tr, .inr (5, [.ref sh])), (sh, .inr (4, [.ref ar, .int (nI n8)])), (ar, .inl (cS, 40, .inr (.inr (.inr (.inr f8))))), (ti, .inr (6, [.ref n1])), (n1, .inr (3, [.ref l1, .int z1])), (l1, .inl (cJ1, 401, .inr (.inl fN))), (s2, .inr (4, [.ref a2, .int (nI m8)])), (a2, .inl (cS2, 40, .inr (.inr (.inr (.inr fk8))))), (s3, .inr (4, [.ref a3, .int z3])), (a3, .inl (cS3, 40, .inr (.inr (.inr (.inr fr))))), (n2, .inr (3, [.ref l2, .int z2])), (l2, .inl (cJ2, 56, .inr (.inl fs))), (mo, .inr (9, [.int t8, .int (nI nn8), .ref mw, .ref mct, .ref mp, .ref mnm, .ref m1, .ref m2, .int om8, .int tm8, .ref mt, .ref mk, .ref mr, .ref ml, .ref mq])), (mw, .inl (k1, 40, .inr (.inl (fun k9 => lN (w8 k9))))), (mct, .inl (k2, 40, .inl (fun k9 => nI (ct8 k9)))), (mp, .inl (k3, 40, .inl (fun k9 => pin (p8 k9)))), (mnm, .inl (k4, 40, .inl (fun k9 => nI (nm8 k9)))), (m1, .inl (k5, 11, .inl u81)), (m2, .inl (k6, 11, .inl u82)), (mt, .inl (k7, 121, .inl u83)), (mk, .inl (k8, 27, .inl (fun k9 => nI (kyf k9)))), (mr, .inl (k9c, 401, .inr (.inl u4))), (ml, .inl (k10, 64, .inr (.inl u5))), (mq, .inl (k11, 64, .inr (.inl u6))), (out, .inl (cO, 1, .inr (.inl fo8)))] ++ (EW ea8 wa8 pf8 cn8 dp8 oc8 ic8 lf8 pt8 n8 ++ WW wa8 wd8 n8)) [16, 21, 22, 23, 17, 18, 19, 20] hP hD rfl rfl hk1 hB rfl
  have hR := q_ro hR0 hna hS
  have g8 := hrb8
  obtain ⟨hE, hnn, hI8, hfe8, hfk8, hEW, hWW⟩ := lw_add hI hfe hfk hF8 g8
  rw [hnn] at hP hD
  rw [hEW, hWW] at hP hD
  have hP : va_P D vwCl ([(xo, .inr (8, [.ref gg, .ref tr, .ref ti, .ref s2, .ref s3, .ref n2])), (gg, .inr (1, [.ref gr])), (gr, .inr (2, [.ref ce])), (ce, .inl (cG, 121, .inl fc8)), (tr, .inr (5, [.ref sh])), (sh, .inr (4, [.ref ar, .int (nI nn8)])), (ar, .inl (cS, 40, .inr (.inr (.inr (.inr f8))))), (ti, .inr (6, [.ref n1])), (n1, .inr (3, [.ref l1, .int z1])), (l1, .inl (cJ1, 401, .inr (.inl fN))), (s2, .inr (4, [.ref a2, .int (nI m8)])), (a2, .inl (cS2, 40, .inr (.inr (.inr (.inr fk8))))), (s3, .inr (4, [.ref a3, .int z3])), (a3, .inl (cS3, 40, .inr (.inr (.inr (.inr fr))))), (n2, .inr (3, [.ref l2, .int z2])), (l2, .inl (cJ2, 56, .inr (.inl fs))), (mo, .inr (9, [.int t8, .int (nI nn8), .ref mw, .ref mct, .ref mp, .ref mnm, .ref m1, .ref m2, .int om8, .int tm8, .ref mt, .ref mk, .ref mr, .ref ml, .ref mq])), (mw, .inl (k1, 40, .inr (.inl (fun k9 => lN (w8 k9))))), (mct, .inl (k2, 40, .inl (fun k9 => nI (ct8 k9)))), (mp, .inl (k3, 40, .inl (fun k9 => pin (p8 k9)))), (mnm, .inl (k4, 40, .inl (fun k9 => nI (nm8 k9)))), (m1, .inl (k5, 11, .inl u81)), (m2, .inl (k6, 11, .inl u82)), (mt, .inl (k7, 121, .inl u83)), (mk, .inl (k8, 27, .inl (fun k9 => nI (kyf k9)))), (mr, .inl (k9c, 401, .inr (.inl u4))), (ml, .inl (k10, 64, .inr (.inl u5))), (mq, .inl (k11, 64, .inr (.inl u6))), (out, .inl (cO, 1, .inr (.inl fo8)))] ++ (EW ea8 wa8 (fun k => (p8 k).map ea8) nm8 dp8 ct8 ic8 lf8 pt8 nn8 ++ WW wa8 w8 nn8)) H_7 := hP
  have hD : va_D A ([(xo, .inr (8, [.ref gg, .ref tr, .ref ti, .ref s2, .ref s3, .ref n2])), (gg, .inr (1, [.ref gr])), (gr, .inr (2, [.ref ce])), (ce, .inl (cG, 121, .inl fc8)), (tr, .inr (5, [.ref sh])), (sh, .inr (4, [.ref ar, .int (nI nn8)])), (ar, .inl (cS, 40, .inr (.inr (.inr (.inr f8))))), (ti, .inr (6, [.ref n1])), (n1, .inr (3, [.ref l1, .int z1])), (l1, .inl (cJ1, 401, .inr (.inl fN))), (s2, .inr (4, [.ref a2, .int (nI m8)])), (a2, .inl (cS2, 40, .inr (.inr (.inr (.inr fk8))))), (s3, .inr (4, [.ref a3, .int z3])), (a3, .inl (cS3, 40, .inr (.inr (.inr (.inr fr))))), (n2, .inr (3, [.ref l2, .int z2])), (l2, .inl (cJ2, 56, .inr (.inl fs))), (mo, .inr (9, [.int t8, .int (nI nn8), .ref mw, .ref mct, .ref mp, .ref mnm, .ref m1, .ref m2, .int om8, .int tm8, .ref mt, .ref mk, .ref mr, .ref ml, .ref mq])), (mw, .inl (k1, 40, .inr (.inl (fun k9 => lN (w8 k9))))), (mct, .inl (k2, 40, .inl (fun k9 => nI (ct8 k9)))), (mp, .inl (k3, 40, .inl (fun k9 => pin (p8 k9)))), (mnm, .inl (k4, 40, .inl (fun k9 => nI (nm8 k9)))), (m1, .inl (k5, 11, .inl u81)), (m2, .inl (k6, 11, .inl u82)), (mt, .inl (k7, 121, .inl u83)), (mk, .inl (k8, 27, .inl (fun k9 => nI (kyf k9)))), (mr, .inl (k9c, 401, .inr (.inl u4))), (ml, .inl (k10, 64, .inr (.inl u5))), (mq, .inl (k11, 64, .inr (.inl u6))), (out, .inl (cO, 1, .inr (.inl fo8)))] ++ (EW ea8 wa8 (fun k => (p8 k).map ea8) nm8 dp8 ct8 ic8 lf8 pt8 nn8 ++ WW wa8 w8 nn8)) := hD
  refine lv_istore (lv' := [(6, .int rb8), (5, .int rv8), (0, .ref b), (1, .ref xo), (2, .ref mo), (3, .ref out), (4, .int (nI i))]) hx hb dL_law_203 hl (by decide) rfl (fun ls hl => ?_)
  refine lv_aload_n hx hb dL_law_205 rfl (lv_at hl 4 rfl) ?_
  refine vp_callSi (W.runV (As := []) (rest := []) ⟨hx, hb, hml, hown, hts⟩ (c_X10_thrown (l := l) (D := D) (mo := mo) (mw := mw) (mct := mct) (mp := mp) (mnm := mnm) (m1 := m1) (m2 := m2) (mt := mt) (mk := mk) (mr := mr) (ml := ml) (mq := mq) (th := t8) (n := nn8) (om := om8) (tm := tm8) ) (cwV 0 hts gL_law_X10_thrown rfl rfl rfl (by decide +kernel) ⟨Nat.le_of_ble_eq_true rfl, Nat.le_of_ble_eq_true rfl⟩) ⟨qP_blind, (va_recv hK hP (ci := 9) (q0 := 16) rfl rfl), (qP_of (hP.sub (ws' := [(mo, .inr (9, [.int t8, .int (nI nn8), .ref mw, .ref mct, .ref mp, .ref mnm, .ref m1, .ref m2, .int om8, .int tm8, .ref mt, .ref mk, .ref mr, .ref ml, .ref mq]))]) [16] rfl) (hK.sub (tys' := []) [] rfl) hNw)⟩ rfl rfl hl.1 rfl (lv_room (Nat.le_of_ble_eq_true rfl)) dL_law_206 ⟨by show _ ≤ 601024; omega, by show _ ≤ 7293034; omega⟩) (fun r_11 hr_11 => ?_)
  have hr_11 := hr_11.symm
  subst hr_11
  refine lv_iload hx hb dL_law_209 (lv_at hl 1 rfl) ?_
  refine lv_icmp_eq (tgt := 216) hx hb dL_law_211 (by decide) (fun c_211 => ?_) (fun c_211 => False.elim (by exact c_211 hE.1))
  refine lv_iload hx hb dL_law_216 (lv_at hl 1 rfl) ?_
  refine lv_if_ne (tgt := 233) hx hb dL_law_218 (by decide) (fun c_218 => ?_) (fun c_218 => ?_)
  · skip
    refine lv_goto (tgt := 1919) hx hb dL_law_233 (by decide) ?_
    exact K _ _ _ _ _ ⟨nn8, m8, w8, ct8, p8, nm8, dp8, ki8, ea8, wa8, ic8, lf8, pt8, f8, fk8, fc8, z1, fN, z3, fr, z2, fs, t8, om8, tm8, u81, u82, u83, u4, u5, u6, fo8, hI8, hfe8, hfk8, hP, hD, hS⟩ (lv_sub hl [2, 3, 4, 5, 6] rfl) (by omega) (by omega)
  · skip
    refine lv_aload_n hx hb dL_law_221 rfl (lv_at hl 5 rfl) ?_
    refine lv_iconst (v := nI 0) hx hb dL_law_222 (by decide) ?_
    refine va_lald (D := D) hx hb hK hP 28 17 rfl rfl (vp_in_nI (n := 0) (N := 1) (by omega) (by decide)) dL_law_223 ?_
    rw [nI_clamp (n := 0) (by omega)]
    refine lv_iload hx hb dL_law_224 (lv_at hl 0 rfl) ?_
    refine lv_i2l hx hb dL_law_226 rfl ?_
    refine W.lcmp hx hb dL_law_227 ?_
    refine q_lr_eq (tgt := 233) hx hb dL_law_228 (by decide) (fun c_228 => ?_) (fun c_228 => False.elim (by exact c_228 (hE.2 c_218)))
    refine lv_goto (tgt := 1919) hx hb dL_law_233 (by decide) ?_
    exact K _ _ _ _ _ ⟨nn8, m8, w8, ct8, p8, nm8, dp8, ki8, ea8, wa8, ic8, lf8, pt8, f8, fk8, fc8, z1, fN, z3, fr, z2, fs, t8, om8, tm8, u81, u82, u83, u4, u5, u6, fo8, hI8, hfe8, hfk8, hP, hD, hS⟩ (lv_sub hl [2, 3, 4, 5, 6] rfl) (by omega) (by omega)

set_option maxHeartbeats 4000000 in
set_option maxRecDepth 100000 in
/-- forget -/
theorem lw_c236 {p : Program} {l : Launch} {e : Env} {s : State} {mi9 : MethodId} {belowM : List Frame} {methM : Method} {cM : Code} {Q : State → Prop} {D : va_G} {A : Nat → Prop} {b L i : Nat} {xs : Nat → Int32} {xo gg gr ce tr sh ar ti n1 l1 s2 a2 s3 a3 n2 l2 mo mw mct mp mnm m1 m2 mt mk mr ml mq out : Nat} {cS cS2 cG cJ1 cS3 cJ2 k1 k2 k3 k4 k5 k6 k7 k8 k9c k10 k11 cO : ClassId} {H : Heap} {locs : List Loc} {ls : Array Slot} {cells slots : Nat} (hE : LWE p l s mi9 cM D A b L xs [(cG, .int), (cS, .object "FuzzyFens$Entry"), (cJ1, .long), (cS2, .object "FuzzyFens$Entry"), (cS3, .object "FuzzyFens$Entry"), (cJ2, .long), (k1, .long), (k2, .int), (k3, .int), (k4, .int), (k5, .int), (k6, .int), (k7, .int), (k8, .int), (k9c, .long), (k10, .long), (k11, .long), (cO, .long)]) (hi : i + 5 ≤ L) (hW : LWI D s A xo gg gr ce tr sh ar ti n1 l1 s2 a2 s3 a3 n2 l2 mo mw mct mp mnm m1 m2 mt mk mr ml mq out cS cS2 cG cJ1 cS3 cJ2 k1 k2 k3 k4 k5 k6 k7 k8 k9c k10 k11 cO H locs) (hl : lv_has ls 8 [(0, .ref b), (1, .ref xo), (2, .ref mo), (3, .ref out), (4, .int (nI i))]) (hc9 : cells + 8 ≤ 601024) (hs9 : slots + 64 ≤ 7293034) (K : LWK p l e s mi9 belowM methM cM Q D A b i xo gg gr ce tr sh ar ti n1 l1 s2 a2 s3 a3 n2 l2 mo mw mct mp mnm m1 m2 mt mk mr ml mq out cS cS2 cG cJ1 cS3 cJ2 k1 k2 k3 k4 k5 k6 k7 k8 k9c k10 k11 cO cells slots) : W p l e room_1 s mi9 #[Value.ref b] belowM methM cM H locs cells slots Q (F0 mi9 236 ls []) := by
  obtain ⟨hx, hb, hml, hown, hts, hX, hbl, hbA, hA, hK, hNw, hZ, hXt, hst, hL⟩ := hE
  obtain ⟨n, m, wd, ct, pa, nm, dp, ki, ea, wa, ic, lf, pt, f, fk, fc, z1, fN, z3, fr, z2, fs, th, om, tm, u1, u2, u3, u4, u5, u6, fo, hI, hfe, hfk, hP, hD, hS⟩ := hW
  have hI0 := hI
  obtain ⟨hn40, hg, hwi, hct, hpn, hun, hnm, hnz, hdp, hKN, hSR⟩ := hI0
  have hmn := kn_le hKN hSR
  have hm : m ≤ 40 := Nat.le_trans hmn hn40
  have hki : ∀ j, j < m → ki j < n := fun j h => (hKN.1 j h).1
  have hcb : ∀ k, k < n → ct k < 2 ^ 31 := fun k h => by have := hct k h; omega
  have hnb : ∀ k, k < n → nm k < 2 ^ 31 := fun k h => by have := hnm k h; omega
  have hmz : ∀ i, i < n → ct i = 0 → m < n := fun i h h0 => kn_lt hKN hSR h h0
  have hkinj := srt_inj hSR
  have hkn := hKN.2
  have heai := q_poolinj hD
  have hR0 : va_P D vwCl [] s.heap := q_Pof (fun _ h => absurd h List.not_mem_nil)
  have hR := hR0
  have hna : ∀ q ∈ ([] : va_W), ¬ A q.1 := fun q h => absurd h List.not_mem_nil
  have hnR : (([] : va_W).map (·.1)).Nodup := List.nodup_nil
  refine lv_aload_n hx hb dL_law_236 rfl (lv_at hl 1 rfl) ?_
  refine lv_aload_n hx hb dL_law_237 rfl (lv_at hl 0 rfl) ?_
  refine lv_iload hx hb dL_law_238 (lv_at hl 4 rfl) ?_
  refine lv_iconst (v := nI 1) hx hb dL_law_240 (by decide) ?_
  refine q_iadd (d := i + 1) hx hb dL_law_241 (by omega) ?_
  refine va_sld hx hb hX hbl hbA hS (vp_in_nI (n := i + 1) (N := L) (by omega) (by omega)) dL_law_242 ?_
  rw [nI_clamp (n := i + 1) (by omega)]
  refine lv_i2l hx hb dL_law_243 rfl ?_
  refine lv_bipush (v := nI 32) hx hb dL_law_244 (by decide) ?_
  refine lv_lshl hx hb dL_law_246 rfl ?_
  refine lv_aload_n hx hb dL_law_247 rfl (lv_at hl 0 rfl) ?_
  refine lv_iload hx hb dL_law_248 (lv_at hl 4 rfl) ?_
  refine lv_iconst (v := nI 2) hx hb dL_law_250 (by decide) ?_
  refine q_iadd (d := i + 2) hx hb dL_law_251 (by omega) ?_
  refine va_sld hx hb hX hbl hbA hS (vp_in_nI (n := i + 2) (N := L) (by omega) (by omega)) dL_law_252 ?_
  rw [nI_clamp (n := i + 2) (by omega)]
  refine lv_i2l hx hb dL_law_253 rfl ?_
  refine lv_ldc2 (v := 4294967295) hx hb hown (hts (.constantLong RL 80 (4294967295)) (List.mem_of_getElem? (i := 7) rfl)) dL_law_254 ?_
  refine q_cvl (show (4294967295 : Int64) = lN 4294967295 by decide) ?_
  refine lv_land hx hb dL_law_257 ?_
  refine lv_lor hx hb dL_law_258 ?_
  obtain ⟨a, ha, hqa⟩ := q_lN ((((xs (i + 1)).toInt64) <<< ((nI 32).toInt64 &&& 63)) ||| (((xs (i + 2)).toInt64) &&& (lN 4294967295)))
  refine q_cvl hqa ?_
  refine lv_aload_n hx hb dL_law_259 rfl (lv_at hl 3 rfl) ?_
  have hF := q_freeT (X := [(xo, .inr (8, [.ref gg, .ref tr, .ref ti, .ref s2, .ref s3, .ref n2])), (gg, .inr (1, [.ref gr])), (gr, .inr (2, [.ref ce])), (ce, .inl (cG, 121, .inl fc)), (tr, .inr (5, [.ref sh])), (sh, .inr (4, [.ref ar, .int (nI n)])), (ar, .inl (cS, 40, .inr (.inr (.inr (.inr f))))), (ti, .inr (6, [.ref n1])), (n1, .inr (3, [.ref l1, .int z1])), (l1, .inl (cJ1, 401, .inr (.inl fN))), (s2, .inr (4, [.ref a2, .int (nI m)])), (a2, .inl (cS2, 40, .inr (.inr (.inr (.inr fk))))), (s3, .inr (4, [.ref a3, .int z3])), (a3, .inl (cS3, 40, .inr (.inr (.inr (.inr fr))))), (n2, .inr (3, [.ref l2, .int z2])), (l2, .inl (cJ2, 56, .inr (.inl fs))), (mo, .inr (9, [.int th, .int (nI n), .ref mw, .ref mct, .ref mp, .ref mnm, .ref m1, .ref m2, .int om, .int tm, .ref mt, .ref mk, .ref mr, .ref ml, .ref mq])), (mw, .inl (k1, 40, .inr (.inl (fun k9 => lN (wd k9))))), (mct, .inl (k2, 40, .inl (fun k9 => nI (ct k9)))), (mp, .inl (k3, 40, .inl (fun k9 => pin (pa k9)))), (mnm, .inl (k4, 40, .inl (fun k9 => nI (nm k9)))), (m1, .inl (k5, 11, .inl u1)), (m2, .inl (k6, 11, .inl u2)), (mt, .inl (k7, 121, .inl u3)), (mk, .inl (k8, 27, .inl (fun k9 => nI (kyf k9)))), (mr, .inl (k9c, 401, .inr (.inl u4))), (ml, .inl (k10, 64, .inr (.inl u5))), (mq, .inl (k11, 64, .inr (.inl u6))), (out, .inl (cO, 1, .inr (.inl fo)))]) (T := (EW ea wa (fun k => (pa k).map ea) nm dp ct ic lf pt n ++ WW wa wd n)) (cx := [(out, .inl (cO, 1, .inr (.inl fo))), (s2, .inr (4, [.ref a2, .int (nI m)])), (a2, .inl (cS2, 40, .inr (.inr (.inr (.inr fk)))))]) hD hS hA [28, 10, 11] rfl
  refine va_calli (vx_runSW (As := [.ref xo, .long (lN a), .ref out]) (rest := []) ⟨hx, hb, hml, hown, hts⟩ (c_L_forget (l := l) (D := D) (xo := xo) (gg := gg) (gr := gr) (ce := ce) (tr := tr) (sh := sh) (ar := ar) (ti := ti) (n1 := n1) (l1 := l1) (s2 := s2) (a2 := a2) (s3 := s3) (a3 := a3) (n2 := n2) (l2 := l2) (cS := cS) (f := f) (cS2 := cS2) (fk := fk) (m := m) (ki := ki) (ea := ea) (wa := wa) (pf := (fun k => (pa k).map ea)) (cn := nm) (dp := dp) (oc := ct) (ic := ic) (lf := lf) (pt := pt) (wd := wd) (n := n) (a := a) (out := out) (cO := cO) (fo := fo) (sz := H.size) (hnd := (q_ndws (q_ndt (a' := [out, s2, a2]) (b' := [xo, tr, sh, ar]) (q_ndsw (q_ndg (l1 := [xo, gg, gr, ce, tr, sh, ar, ti, n1, l1, s2, a2, s3, a3, n2, l2, mo, mw, mct, mp, mnm, m1, m2, mt, mk, mr, ml, mq, out] ++ (rg ea n ++ rg wa n)) (l2 := []) hD hnR hna (by rw [List.map_append, List.map_append, EW_fst, WW_fst]; rfl) rfl)) [28, 10, 11, 0, 4, 5, 6] rfl rfl))) (hst := hst) (ha := by omega) (hfe := hfe) (hn40 := hn40) (hg := hg) (hm := hm) (hf := hfk) (hki := hki) (hob := hct) (hinj := heai) (hkinj := hkinj) (hkn := hkn)) (vx_cwSW 3 hts gL_law_L_forget rfl rfl rfl (by decide +kernel) ⟨Nat.le_of_ble_eq_true rfl, Nat.le_of_ble_eq_true rfl⟩) ⟨qWx_blind, (qWx_of (hP.sub (ws' := [(xo, .inr (8, [.ref gg, .ref tr, .ref ti, .ref s2, .ref s3, .ref n2])), (tr, .inr (5, [.ref sh])), (sh, .inr (4, [.ref ar, .int (nI n)])), (ar, .inl (cS, 40, .inr (.inr (.inr (.inr f)))))]) [0, 4, 5, 6] rfl) (va_P.app (hP.sub (ws' := [(out, .inl (cO, 1, .inr (.inl fo))), (s2, .inr (4, [.ref a2, .int (nI m)])), (a2, .inl (cS2, 40, .inr (.inr (.inr (.inr fk)))))]) [28, 10, 11] rfl) (q_right hP)) (hK.sub (tys' := [(cO, .long), (cS2, .object "FuzzyFens$Entry"), (cS, .object "FuzzyFens$Entry")]) [17, 3, 1] rfl) hNw (qZ_at hZ hS (fun q h => hF q h)) hXt)⟩ rfl rfl hl.1 rfl (lv_room (Nat.le_of_ble_eq_true rfl)) dL_law_260 ⟨by show _ ≤ 601024; omega, by show _ ≤ 7293034; omega⟩) hS (fun q _ h => hF q h) hF (fun rv8 u_5 t_4 H_2 locs_3 ht hvm hrv8 hB hz1 hk1 hS => ?_)
  obtain ⟨m8, fk8, oc8, fo8⟩ := u_5
  dsimp only at hrv8 hB
  replace hB : va_P D vwCl ([(out, .inl (cO, 1, .inr (.inl fo8))), (s2, .inr (4, [.ref a2, .int (nI m8)])), (a2, .inl (cS2, 40, .inr (.inr (.inr (.inr fk8)))))] ++ (EW ea wa (fun k => (pa k).map ea) nm dp oc8 ic lf pt n ++ WW wa wd n)) H_2 := by rw [← ht]; exact hB
  obtain ⟨hP, hD⟩ := q_joinT (X := [(xo, .inr (8, [.ref gg, .ref tr, .ref ti, .ref s2, .ref s3, .ref n2])), (gg, .inr (1, [.ref gr])), (gr, .inr (2, [.ref ce])), (ce, .inl (cG, 121, .inl fc)), (tr, .inr (5, [.ref sh])), (sh, .inr (4, [.ref ar, .int (nI n)])), (ar, .inl (cS, 40, .inr (.inr (.inr (.inr f))))), (ti, .inr (6, [.ref n1])), (n1, .inr (3, [.ref l1, .int z1])), (l1, .inl (cJ1, 401, .inr (.inl fN))), (s2, .inr (4, [.ref a2, .int (nI m)])), (a2, .inl (cS2, 40, .inr (.inr (.inr (.inr fk))))), (s3, .inr (4, [.ref a3, .int z3])), (a3, .inl (cS3, 40, .inr (.inr (.inr (.inr fr))))), (n2, .inr (3, [.ref l2, .int z2])), (l2, .inl (cJ2, 56, .inr (.inl fs))), (mo, .inr (9, [.int th, .int (nI n), .ref mw, .ref mct, .ref mp, .ref mnm, .ref m1, .ref m2, .int om, .int tm, .ref mt, .ref mk, .ref mr, .ref ml, .ref mq])), (mw, .inl (k1, 40, .inr (.inl (fun k9 => lN (wd k9))))), (mct, .inl (k2, 40, .inl (fun k9 => nI (ct k9)))), (mp, .inl (k3, 40, .inl (fun k9 => pin (pa k9)))), (mnm, .inl (k4, 40, .inl (fun k9 => nI (nm k9)))), (m1, .inl (k5, 11, .inl u1)), (m2, .inl (k6, 11, .inl u2)), (mt, .inl (k7, 121, .inl u3)), (mk, .inl (k8, 27, .inl (fun k9 => nI (kyf k9)))), (mr, .inl (k9c, 401, .inr (.inl u4))), (ml, .inl (k10, 64, .inr (.inl u5))), (mq, .inl (k11, 64, .inr (.inl u6))), (out, .inl (cO, 1, .inr (.inl fo)))]) (T := (EW ea wa (fun k => (pa k).map ea) nm dp ct ic lf pt n ++ WW wa wd n)) (cx := [(out, .inl (cO, 1, .inr (.inl fo))), (s2, .inr (4, [.ref a2, .int (nI m)])), (a2, .inl (cS2, 40, .inr (.inr (.inr (.inr fk)))))]) (cx' := [(out, .inl (cO, 1, .inr (.inl fo8))), (s2, .inr (4, [.ref a2, .int (nI m8)])), (a2, .inl (cS2, 40, .inr (.inr (.inr (.inr fk8)))))]) (T' := (EW ea wa (fun k => (pa k).map ea) nm dp oc8 ic lf pt n ++ WW wa wd n)) (X' := [(xo, .inr (8, [.ref gg, .ref tr, .ref ti, .ref s2, .ref s3, .ref n2])), (gg, .inr (1, [.ref gr])), (gr, .inr (2, [.ref ce])), (ce, .inl (cG, 121, .inl fc)), (tr, .inr (5, [.ref sh])), (sh, .inr (4, [.ref ar, .int (nI n)])), (ar, .inl (cS, 40, .inr (.inr (.inr (.inr f))))), (ti, .inr (6, [.ref n1])), (n1, .inr (3, [.ref l1, .int z1])), (l1, .inl (cJ1, 401, .inr (.inl fN))), (s2, .inr (4, [.ref a2, .int (nI m8)])), (a2, .inl (cS2, 40, .inr (.inr (.inr (.inr fk8))))), (s3, .inr (4, [.ref a3, .int z3])), (a3, .inl (cS3, 40, .inr (.inr (.inr (.inr fr))))), (n2, .inr (3, [.ref l2, .int z2])), (l2, .inl (cJ2, 56, .inr (.inl fs))), (mo, .inr (9, [.int th, .int (nI n), .ref mw, .ref mct, .ref mp, .ref mnm, .ref m1, .ref m2, .int om, .int tm, .ref mt, .ref mk, .ref mr, .ref ml, .ref mq])), (mw, .inl (k1, 40, .inr (.inl (fun k9 => lN (wd k9))))), (mct, .inl (k2, 40, .inl (fun k9 => nI (ct k9)))), (mp, .inl (k3, 40, .inl (fun k9 => pin (pa k9)))), (mnm, .inl (k4, 40, .inl (fun k9 => nI (nm k9)))), (m1, .inl (k5, 11, .inl u1)), (m2, .inl (k6, 11, .inl u2)), (mt, .inl (k7, 121, .inl u3)), (mk, .inl (k8, 27, .inl (fun k9 => nI (kyf k9)))), (mr, .inl (k9c, 401, .inr (.inl u4))), (ml, .inl (k10, 64, .inr (.inl u5))), (mq, .inl (k11, 64, .inr (.inl u6))), (out, .inl (cO, 1, .inr (.inl fo8)))]) [28, 10, 11] hP hD rfl rfl (by simp only [List.map_append, EW_fst, WW_fst]) hk1 hB rfl
  have hR := q_ro hR0 hna hS
  have hF8 := hrv8
  refine lv_istore (lv' := [(5, .int rv8), (0, .ref b), (1, .ref xo), (2, .ref mo), (3, .ref out), (4, .int (nI i))]) hx hb dL_law_263 hl (by decide) rfl (fun ls hl => ?_)
  refine lv_aload_n hx hb dL_law_265 rfl (lv_at hl 3 rfl) ?_
  refine lv_aload_n hx hb dL_law_266 rfl (lv_at hl 1 rfl) ?_
  refine lv_iload hx hb dL_law_267 (lv_at hl 5 rfl) ?_
  refine lv_iconst (v := nI 1) hx hb dL_law_269 (by decide) ?_
  refine q_iadd (d := i + 1) hx hb dL_law_270 (by omega) ?_
  refine va_sld hx hb hX hbl hbA hS (vp_in_nI (n := i + 1) (N := L) (by omega) (by omega)) dL_law_271 ?_
  rw [nI_clamp (n := i + 1) (by omega)]
  refine lv_i2l hx hb dL_law_272 rfl ?_
  refine lv_bipush (v := nI 32) hx hb dL_law_273 (by decide) ?_
  refine lv_lshl hx hb dL_law_275 rfl ?_
  refine lv_aload_n hx hb dL_law_276 rfl (lv_at hl 1 rfl) ?_
  refine lv_iload hx hb dL_law_277 (lv_at hl 5 rfl) ?_
  refine lv_iconst (v := nI 2) hx hb dL_law_279 (by decide) ?_
  refine q_iadd (d := i + 2) hx hb dL_law_280 (by omega) ?_
  refine va_sld hx hb hX hbl hbA hS (vp_in_nI (n := i + 2) (N := L) (by omega) (by omega)) dL_law_281 ?_
  rw [nI_clamp (n := i + 2) (by omega)]
  refine lv_i2l hx hb dL_law_282 rfl ?_
  refine lv_ldc2 (v := 4294967295) hx hb hown (hts (.constantLong RL 80 (4294967295)) (List.mem_of_getElem? (i := 7) rfl)) dL_law_283 ?_
  refine q_cvl (show (4294967295 : Int64) = lN 4294967295 by decide) ?_
  refine lv_land hx hb dL_law_286 ?_
  refine lv_lor hx hb dL_law_287 ?_
  refine q_cvl hqa ?_
  have hF := va_free (wc := [(mo, .inr (9, [.int th, .int (nI n), .ref mw, .ref mct, .ref mp, .ref mnm, .ref m1, .ref m2, .int om, .int tm, .ref mt, .ref mk, .ref mr, .ref ml, .ref mq])), (mct, .inl (k2, 40, .inl (fun k9 => nI (ct k9))))]) hD hS hA [16, 18] rfl
  refine va_calli (va_runV (As := [.long (lN a)]) (rest := []) ⟨hx, hb, hml, hown, hts⟩ (c_X10_forget (l := l) (D := D) (mo := mo) (mw := mw) (mct := mct) (mp := mp) (mnm := mnm) (m1 := m1) (m2 := m2) (mt := mt) (mk := mk) (mr := mr) (ml := ml) (mq := mq) (k1 := k1) (k2 := k2) (th := th) (n := n) (om := om) (tm := tm) (wd := wd) (ct := ct) (a := a) (sz := H_2.size) (hnd := (q_nds (q_ndl (q_ndsw (q_ndg (l1 := [xo, gg, gr, ce, tr, sh, ar, ti, n1, l1, s2, a2, s3, a3, n2, l2, mo, mw, mct, mp, mnm, m1, m2, mt, mk, mr, ml, mq, out] ++ (rg ea n ++ rg wa n)) (l2 := []) hD hnR hna (by rw [List.map_append, List.map_append, EW_fst, WW_fst]; rfl) rfl))) [16, 18, 17] rfl rfl)) (ha := by omega) (hn40 := hn40) (hgw := hg) (hinj := hwi) (hcb := hcb)) (cwV 1 hts gL_law_X10_forget rfl rfl rfl (by decide +kernel) ⟨Nat.le_of_ble_eq_true rfl, Nat.le_of_ble_eq_true rfl⟩) ⟨qW_blind, (va_recv hK hP (ci := 9) (q0 := 16) rfl rfl), (qW_of (hP.sub (ws' := [(mw, .inl (k1, 40, .inr (.inl (fun k9 => lN (wd k9)))))]) [17] rfl) (hP.sub (ws' := [(mo, .inr (9, [.int th, .int (nI n), .ref mw, .ref mct, .ref mp, .ref mnm, .ref m1, .ref m2, .int om, .int tm, .ref mt, .ref mk, .ref mr, .ref ml, .ref mq])), (mct, .inl (k2, 40, .inl (fun k9 => nI (ct k9))))]) [16, 18] rfl) (hK.sub (tys' := [(k2, .int), (k1, .long)]) [7, 6] rfl) hNw)⟩ rfl rfl hl.1 rfl (lv_room (Nat.le_of_ble_eq_true rfl)) dL_law_288 ⟨by show _ ≤ 601024; omega, by show _ ≤ 7293034; omega⟩) hS (fun q _ h => hF q h) hF (fun rb8 u_10 t_9 H_7 locs_8 ht hvm hrb8 hB hz1 hk1 hS => ?_)
  obtain ⟨t8, c8⟩ := u_10
  dsimp only at hrb8 hB
  replace hB : va_P D vwCl [(mo, .inr (9, [.int t8, .int (nI n), .ref mw, .ref mct, .ref mp, .ref mnm, .ref m1, .ref m2, .int om, .int tm, .ref mt, .ref mk, .ref mr, .ref ml, .ref mq])), (mct, .inl (k2, 40, .inl (fun k9 => nI (c8 k9))))] H_7 := by rw [← ht]; exact hB
  obtain ⟨hP, hD⟩ := q_join (wc := [(mo, .inr (9, [.int th, .int (nI n), .ref mw, .ref mct, .ref mp, .ref mnm, .ref m1, .ref m2, .int om, .int tm, .ref mt, .ref mk, .ref mr, .ref ml, .ref mq])), (mct, .inl (k2, 40, .inl (fun k9 => nI (ct k9))))]) (w1 := [(mo, .inr (9, [.int t8, .int (nI n), .ref mw, .ref mct, .ref mp, .ref mnm, .ref m1, .ref m2, .int om, .int tm, .ref mt, .ref mk, .ref mr, .ref ml, .ref mq])), (mct, .inl (k2, 40, .inl (fun k9 => nI (c8 k9))))]) (ws' := [(xo, .inr (8, [.ref gg, .ref tr, .ref ti, .ref s2, .ref s3, .ref n2])), (gg, .inr (1, [.ref gr])), (gr, .inr (2, [.ref ce])), (ce, .inl (cG, 121, .inl fc)), (tr, .inr (5, [.ref sh])), (sh, .inr (4, [.ref ar, .int (nI n)])), (ar, .inl (cS, 40, .inr (.inr (.inr (.inr f))))), (ti, .inr (6, [.ref n1])), (n1, .inr (3, [.ref l1, .int z1])), (l1, .inl (cJ1, 401, .inr (.inl fN))), (s2, .inr (4, [.ref a2, .int (nI m8)])), (a2, .inl (cS2, 40, .inr (.inr (.inr (.inr fk8))))), (s3, .inr (4, [.ref a3, .int z3])), (a3, .inl (cS3, 40, .inr (.inr (.inr (.inr fr))))), (n2, .inr (3, [.ref l2, .int z2])), (l2, .inl (cJ2, 56, .inr (.inl fs))), (mo, .inr (9, [.int t8, .int (nI n), .ref mw, .ref mct, .ref mp, .ref mnm, .ref m1, .ref m2, .int om, .int tm, .ref mt, .ref mk, .ref mr, .ref ml, .ref mq])), (mw, .inl (k1, 40, .inr (.inl (fun k9 => lN (wd k9))))), (mct, .inl (k2, 40, .inl (fun k9 => nI (c8 k9)))), (mp, .inl (k3, 40, .inl (fun k9 => pin (pa k9)))), (mnm, .inl (k4, 40, .inl (fun k9 => nI (nm k9)))), (m1, .inl (k5, 11, .inl u1)), (m2, .inl (k6, 11, .inl u2)), (mt, .inl (k7, 121, .inl u3)), (mk, .inl (k8, 27, .inl (fun k9 => nI (kyf k9)))), (mr, .inl (k9c, 401, .inr (.inl u4))), (ml, .inl (k10, 64, .inr (.inl u5))), (mq, .inl (k11, 64, .inr (.inl u6))), (out, .inl (cO, 1, .inr (.inl fo8)))] ++ (EW ea wa (fun k => (pa k).map ea) nm dp oc8 ic lf pt n ++ WW wa wd n)) [16, 18] hP hD rfl rfl hk1 hB rfl
  have hR := q_ro hR0 hna hS
  have g8 := hrb8
  obtain ⟨hE, hoc, ki8, hI8, hfk8⟩ := lw_fg hI hfk hF8 g8
  rw [hoc] at hP hD
  have hP : va_P D vwCl ([(xo, .inr (8, [.ref gg, .ref tr, .ref ti, .ref s2, .ref s3, .ref n2])), (gg, .inr (1, [.ref gr])), (gr, .inr (2, [.ref ce])), (ce, .inl (cG, 121, .inl fc)), (tr, .inr (5, [.ref sh])), (sh, .inr (4, [.ref ar, .int (nI n)])), (ar, .inl (cS, 40, .inr (.inr (.inr (.inr f))))), (ti, .inr (6, [.ref n1])), (n1, .inr (3, [.ref l1, .int z1])), (l1, .inl (cJ1, 401, .inr (.inl fN))), (s2, .inr (4, [.ref a2, .int (nI m8)])), (a2, .inl (cS2, 40, .inr (.inr (.inr (.inr fk8))))), (s3, .inr (4, [.ref a3, .int z3])), (a3, .inl (cS3, 40, .inr (.inr (.inr (.inr fr))))), (n2, .inr (3, [.ref l2, .int z2])), (l2, .inl (cJ2, 56, .inr (.inl fs))), (mo, .inr (9, [.int t8, .int (nI n), .ref mw, .ref mct, .ref mp, .ref mnm, .ref m1, .ref m2, .int om, .int tm, .ref mt, .ref mk, .ref mr, .ref ml, .ref mq])), (mw, .inl (k1, 40, .inr (.inl (fun k9 => lN (wd k9))))), (mct, .inl (k2, 40, .inl (fun k9 => nI (c8 k9)))), (mp, .inl (k3, 40, .inl (fun k9 => pin (pa k9)))), (mnm, .inl (k4, 40, .inl (fun k9 => nI (nm k9)))), (m1, .inl (k5, 11, .inl u1)), (m2, .inl (k6, 11, .inl u2)), (mt, .inl (k7, 121, .inl u3)), (mk, .inl (k8, 27, .inl (fun k9 => nI (kyf k9)))), (mr, .inl (k9c, 401, .inr (.inl u4))), (ml, .inl (k10, 64, .inr (.inl u5))), (mq, .inl (k11, 64, .inr (.inl u6))), (out, .inl (cO, 1, .inr (.inl fo8)))] ++ (EW ea wa (fun k => (pa k).map ea) nm dp c8 ic lf pt n ++ WW wa wd n)) H_7 := hP
  have hD : va_D A ([(xo, .inr (8, [.ref gg, .ref tr, .ref ti, .ref s2, .ref s3, .ref n2])), (gg, .inr (1, [.ref gr])), (gr, .inr (2, [.ref ce])), (ce, .inl (cG, 121, .inl fc)), (tr, .inr (5, [.ref sh])), (sh, .inr (4, [.ref ar, .int (nI n)])), (ar, .inl (cS, 40, .inr (.inr (.inr (.inr f))))), (ti, .inr (6, [.ref n1])), (n1, .inr (3, [.ref l1, .int z1])), (l1, .inl (cJ1, 401, .inr (.inl fN))), (s2, .inr (4, [.ref a2, .int (nI m8)])), (a2, .inl (cS2, 40, .inr (.inr (.inr (.inr fk8))))), (s3, .inr (4, [.ref a3, .int z3])), (a3, .inl (cS3, 40, .inr (.inr (.inr (.inr fr))))), (n2, .inr (3, [.ref l2, .int z2])), (l2, .inl (cJ2, 56, .inr (.inl fs))), (mo, .inr (9, [.int t8, .int (nI n), .ref mw, .ref mct, .ref mp, .ref mnm, .ref m1, .ref m2, .int om, .int tm, .ref mt, .ref mk, .ref mr, .ref ml, .ref mq])), (mw, .inl (k1, 40, .inr (.inl (fun k9 => lN (wd k9))))), (mct, .inl (k2, 40, .inl (fun k9 => nI (c8 k9)))), (mp, .inl (k3, 40, .inl (fun k9 => pin (pa k9)))), (mnm, .inl (k4, 40, .inl (fun k9 => nI (nm k9)))), (m1, .inl (k5, 11, .inl u1)), (m2, .inl (k6, 11, .inl u2)), (mt, .inl (k7, 121, .inl u3)), (mk, .inl (k8, 27, .inl (fun k9 => nI (kyf k9)))), (mr, .inl (k9c, 401, .inr (.inl u4))), (ml, .inl (k10, 64, .inr (.inl u5))), (mq, .inl (k11, 64, .inr (.inl u6))), (out, .inl (cO, 1, .inr (.inl fo8)))] ++ (EW ea wa (fun k => (pa k).map ea) nm dp c8 ic lf pt n ++ WW wa wd n)) := hD
  refine lv_istore (lv' := [(6, .int rb8), (5, .int rv8), (0, .ref b), (1, .ref xo), (2, .ref mo), (3, .ref out), (4, .int (nI i))]) hx hb dL_law_291 hl (by decide) rfl (fun ls hl => ?_)
  refine lv_aload_n hx hb dL_law_293 rfl (lv_at hl 4 rfl) ?_
  refine vp_callSi (W.runV (As := []) (rest := []) ⟨hx, hb, hml, hown, hts⟩ (c_X10_thrown (l := l) (D := D) (mo := mo) (mw := mw) (mct := mct) (mp := mp) (mnm := mnm) (m1 := m1) (m2 := m2) (mt := mt) (mk := mk) (mr := mr) (ml := ml) (mq := mq) (th := t8) (n := n) (om := om) (tm := tm) ) (cwV 0 hts gL_law_X10_thrown rfl rfl rfl (by decide +kernel) ⟨Nat.le_of_ble_eq_true rfl, Nat.le_of_ble_eq_true rfl⟩) ⟨qP_blind, (va_recv hK hP (ci := 9) (q0 := 16) rfl rfl), (qP_of (hP.sub (ws' := [(mo, .inr (9, [.int t8, .int (nI n), .ref mw, .ref mct, .ref mp, .ref mnm, .ref m1, .ref m2, .int om, .int tm, .ref mt, .ref mk, .ref mr, .ref ml, .ref mq]))]) [16] rfl) (hK.sub (tys' := []) [] rfl) hNw)⟩ rfl rfl hl.1 rfl (lv_room (Nat.le_of_ble_eq_true rfl)) dL_law_294 ⟨by show _ ≤ 601024; omega, by show _ ≤ 7293034; omega⟩) (fun r_11 hr_11 => ?_)
  have hr_11 := hr_11.symm
  subst hr_11
  refine lv_iload hx hb dL_law_297 (lv_at hl 1 rfl) ?_
  refine lv_icmp_eq (tgt := 304) hx hb dL_law_299 (by decide) (fun c_299 => ?_) (fun c_299 => False.elim (by exact c_299 hE.1))
  refine lv_iload hx hb dL_law_304 (lv_at hl 1 rfl) ?_
  refine lv_if_ne (tgt := 321) hx hb dL_law_306 (by decide) (fun c_306 => ?_) (fun c_306 => ?_)
  · skip
    refine lv_goto (tgt := 1919) hx hb dL_law_321 (by decide) ?_
    exact K _ _ _ _ _ ⟨n, m8, wd, c8, pa, nm, dp, ki8, ea, wa, ic, lf, pt, f, fk8, fc, z1, fN, z3, fr, z2, fs, t8, om, tm, u1, u2, u3, u4, u5, u6, fo8, hI8, hfe, hfk8, hP, hD, hS⟩ (lv_sub hl [2, 3, 4, 5, 6] rfl) (by omega) (by omega)
  · skip
    refine lv_aload_n hx hb dL_law_309 rfl (lv_at hl 5 rfl) ?_
    refine lv_iconst (v := nI 0) hx hb dL_law_310 (by decide) ?_
    refine va_lald (D := D) hx hb hK hP 28 17 rfl rfl (vp_in_nI (n := 0) (N := 1) (by omega) (by decide)) dL_law_311 ?_
    rw [nI_clamp (n := 0) (by omega)]
    refine lv_iload hx hb dL_law_312 (lv_at hl 0 rfl) ?_
    refine lv_i2l hx hb dL_law_314 rfl ?_
    refine W.lcmp hx hb dL_law_315 ?_
    refine q_lr_eq (tgt := 321) hx hb dL_law_316 (by decide) (fun c_316 => ?_) (fun c_316 => False.elim (by exact c_316 (hE.2 c_306)))
    refine lv_goto (tgt := 1919) hx hb dL_law_321 (by decide) ?_
    exact K _ _ _ _ _ ⟨n, m8, wd, c8, pa, nm, dp, ki8, ea, wa, ic, lf, pt, f, fk8, fc, z1, fN, z3, fr, z2, fs, t8, om, tm, u1, u2, u3, u4, u5, u6, fo8, hI8, hfe, hfk8, hP, hD, hS⟩ (lv_sub hl [2, 3, 4, 5, 6] rfl) (by omega) (by omega)

set_option maxHeartbeats 4000000 in
set_option maxRecDepth 100000 in
/-- words -/
theorem lw_c324 {p : Program} {l : Launch} {e : Env} {s : State} {mi9 : MethodId} {belowM : List Frame} {methM : Method} {cM : Code} {Q : State → Prop} {D : va_G} {A : Nat → Prop} {b L i : Nat} {xs : Nat → Int32} {xo gg gr ce tr sh ar ti n1 l1 s2 a2 s3 a3 n2 l2 mo mw mct mp mnm m1 m2 mt mk mr ml mq out : Nat} {cS cS2 cG cJ1 cS3 cJ2 k1 k2 k3 k4 k5 k6 k7 k8 k9c k10 k11 cO : ClassId} {H : Heap} {locs : List Loc} {ls : Array Slot} {cells slots : Nat} (hE : LWE p l s mi9 cM D A b L xs [(cG, .int), (cS, .object "FuzzyFens$Entry"), (cJ1, .long), (cS2, .object "FuzzyFens$Entry"), (cS3, .object "FuzzyFens$Entry"), (cJ2, .long), (k1, .long), (k2, .int), (k3, .int), (k4, .int), (k5, .int), (k6, .int), (k7, .int), (k8, .int), (k9c, .long), (k10, .long), (k11, .long), (cO, .long)]) (hi : i + 5 ≤ L) (hW : LWI D s A xo gg gr ce tr sh ar ti n1 l1 s2 a2 s3 a3 n2 l2 mo mw mct mp mnm m1 m2 mt mk mr ml mq out cS cS2 cG cJ1 cS3 cJ2 k1 k2 k3 k4 k5 k6 k7 k8 k9c k10 k11 cO H locs) (hl : lv_has ls 8 [(0, .ref b), (1, .ref xo), (2, .ref mo), (3, .ref out), (4, .int (nI i))]) (hc9 : cells + 8 ≤ 601024) (hs9 : slots + 64 ≤ 7293034) (K : LWK p l e s mi9 belowM methM cM Q D A b i xo gg gr ce tr sh ar ti n1 l1 s2 a2 s3 a3 n2 l2 mo mw mct mp mnm m1 m2 mt mk mr ml mq out cS cS2 cG cJ1 cS3 cJ2 k1 k2 k3 k4 k5 k6 k7 k8 k9c k10 k11 cO cells slots) : W p l e room_1 s mi9 #[Value.ref b] belowM methM cM H locs cells slots Q (F0 mi9 324 ls []) := by
  obtain ⟨hx, hb, hml, hown, hts, hX, hbl, hbA, hA, hK, hNw, hZ, hXt, hst, hL⟩ := hE
  obtain ⟨n, m, wd, ct, pa, nm, dp, ki, ea, wa, ic, lf, pt, f, fk, fc, z1, fN, z3, fr, z2, fs, th, om, tm, u1, u2, u3, u4, u5, u6, fo, hI, hfe, hfk, hP, hD, hS⟩ := hW
  have hI0 := hI
  obtain ⟨hn40, hg, hwi, hct, hpn, hun, hnm, hnz, hdp, hKN, hSR⟩ := hI0
  have hmn := kn_le hKN hSR
  have hm : m ≤ 40 := Nat.le_trans hmn hn40
  have hki : ∀ j, j < m → ki j < n := fun j h => (hKN.1 j h).1
  have hcb : ∀ k, k < n → ct k < 2 ^ 31 := fun k h => by have := hct k h; omega
  have hnb : ∀ k, k < n → nm k < 2 ^ 31 := fun k h => by have := hnm k h; omega
  have hmz : ∀ i, i < n → ct i = 0 → m < n := fun i h h0 => kn_lt hKN hSR h h0
  have hkinj := srt_inj hSR
  have hkn := hKN.2
  have heai := q_poolinj hD
  have hR0 : va_P D vwCl [] s.heap := q_Pof (fun _ h => absurd h List.not_mem_nil)
  have hR := hR0
  have hna : ∀ q ∈ ([] : va_W), ¬ A q.1 := fun q h => absurd h List.not_mem_nil
  have hnR : (([] : va_W).map (·.1)).Nodup := List.nodup_nil
  refine lv_aload_n hx hb dL_law_324 rfl (lv_at hl 1 rfl) ?_
  refine vp_callSi (W.runV (As := []) (rest := []) ⟨hx, hb, hml, hown, hts⟩ (c_X9_words (l := l) (D := D) (xo := xo) (gg := gg) (gr := gr) (ce := ce) (tr := tr) (sh := sh) (ar := ar) (ti := ti) (n1 := n1) (l1 := l1) (s2 := s2) (a2 := a2) (s3 := s3) (a3 := a3) (n2 := n2) (l2 := l2) (m := m) ) (cwV 0 hts gL_law_X9_words rfl rfl rfl (by decide +kernel) ⟨Nat.le_of_ble_eq_true rfl, Nat.le_of_ble_eq_true rfl⟩) ⟨qP_blind, (va_recv hK hP (ci := 8) (q0 := 0) rfl rfl), (qP_of (hP.sub (ws' := [(xo, .inr (8, [.ref gg, .ref tr, .ref ti, .ref s2, .ref s3, .ref n2])), (s2, .inr (4, [.ref a2, .int (nI m)]))]) [0, 10] rfl) (hK.sub (tys' := []) [] rfl) hNw)⟩ rfl rfl hl.1 rfl (lv_room (Nat.le_of_ble_eq_true rfl)) dL_law_325 ⟨by show _ ≤ 601024; omega, by show _ ≤ 7293034; omega⟩) (fun r_1 hr_1 => ?_)
  subst hr_1
  refine lv_aload_n hx hb dL_law_328 rfl (lv_at hl 2 rfl) ?_
  have hF := va_free (wc := [(mo, .inr (9, [.int th, .int (nI n), .ref mw, .ref mct, .ref mp, .ref mnm, .ref m1, .ref m2, .int om, .int tm, .ref mt, .ref mk, .ref mr, .ref ml, .ref mq]))]) hD hS hA [16] rfl
  refine va_calli (va_runV (As := []) (rest := [.int (nI m)]) ⟨hx, hb, hml, hown, hts⟩ (c_X10_words (l := l) (D := D) (mo := mo) (mw := mw) (mct := mct) (mp := mp) (mnm := mnm) (m1 := m1) (m2 := m2) (mt := mt) (mk := mk) (mr := mr) (ml := ml) (mq := mq) (k2 := k2) (th := th) (n := n) (om := om) (tm := tm) (ct := ct) (sz := H.size) (hnd := (q_nds (q_ndl (q_ndsw (q_ndg (l1 := [xo, gg, gr, ce, tr, sh, ar, ti, n1, l1, s2, a2, s3, a3, n2, l2, mo, mw, mct, mp, mnm, m1, m2, mt, mk, mr, ml, mq, out] ++ (rg ea n ++ rg wa n)) (l2 := []) hD hnR hna (by rw [List.map_append, List.map_append, EW_fst, WW_fst]; rfl) rfl))) [16, 18] rfl rfl)) (hn40 := hn40) (hcb := hcb)) (cwV 0 hts gL_law_X10_words rfl rfl rfl (by decide +kernel) ⟨Nat.le_of_ble_eq_true rfl, Nat.le_of_ble_eq_true rfl⟩) ⟨qW_blind, (va_recv hK hP (ci := 9) (q0 := 16) rfl rfl), (qW_of (hP.sub (ws' := [(mct, .inl (k2, 40, .inl (fun k9 => nI (ct k9))))]) [18] rfl) (hP.sub (ws' := [(mo, .inr (9, [.int th, .int (nI n), .ref mw, .ref mct, .ref mp, .ref mnm, .ref m1, .ref m2, .int om, .int tm, .ref mt, .ref mk, .ref mr, .ref ml, .ref mq]))]) [16] rfl) (hK.sub (tys' := [(k2, .int)]) [7] rfl) hNw)⟩ rfl rfl hl.1 rfl (lv_room (Nat.le_of_ble_eq_true rfl)) dL_law_329 ⟨by show _ ≤ 601024; omega, by show _ ≤ 7293034; omega⟩) hS (fun q _ h => hF q h) hF (fun r_2 u_6 t_5 H_3 locs_4 ht hvm hr_2 hB hz1 hk1 hS => ?_)
  replace hB : va_P D vwCl [(mo, .inr (9, [.int (nI 0), .int (nI n), .ref mw, .ref mct, .ref mp, .ref mnm, .ref m1, .ref m2, .int om, .int tm, .ref mt, .ref mk, .ref mr, .ref ml, .ref mq]))] H_3 := by rw [← ht]; exact hB
  obtain ⟨hP, hD⟩ := q_join (wc := [(mo, .inr (9, [.int th, .int (nI n), .ref mw, .ref mct, .ref mp, .ref mnm, .ref m1, .ref m2, .int om, .int tm, .ref mt, .ref mk, .ref mr, .ref ml, .ref mq]))]) (w1 := [(mo, .inr (9, [.int (nI 0), .int (nI n), .ref mw, .ref mct, .ref mp, .ref mnm, .ref m1, .ref m2, .int om, .int tm, .ref mt, .ref mk, .ref mr, .ref ml, .ref mq]))]) (ws' := [(xo, .inr (8, [.ref gg, .ref tr, .ref ti, .ref s2, .ref s3, .ref n2])), (gg, .inr (1, [.ref gr])), (gr, .inr (2, [.ref ce])), (ce, .inl (cG, 121, .inl fc)), (tr, .inr (5, [.ref sh])), (sh, .inr (4, [.ref ar, .int (nI n)])), (ar, .inl (cS, 40, .inr (.inr (.inr (.inr f))))), (ti, .inr (6, [.ref n1])), (n1, .inr (3, [.ref l1, .int z1])), (l1, .inl (cJ1, 401, .inr (.inl fN))), (s2, .inr (4, [.ref a2, .int (nI m)])), (a2, .inl (cS2, 40, .inr (.inr (.inr (.inr fk))))), (s3, .inr (4, [.ref a3, .int z3])), (a3, .inl (cS3, 40, .inr (.inr (.inr (.inr fr))))), (n2, .inr (3, [.ref l2, .int z2])), (l2, .inl (cJ2, 56, .inr (.inl fs))), (mo, .inr (9, [.int (nI 0), .int (nI n), .ref mw, .ref mct, .ref mp, .ref mnm, .ref m1, .ref m2, .int om, .int tm, .ref mt, .ref mk, .ref mr, .ref ml, .ref mq])), (mw, .inl (k1, 40, .inr (.inl (fun k9 => lN (wd k9))))), (mct, .inl (k2, 40, .inl (fun k9 => nI (ct k9)))), (mp, .inl (k3, 40, .inl (fun k9 => pin (pa k9)))), (mnm, .inl (k4, 40, .inl (fun k9 => nI (nm k9)))), (m1, .inl (k5, 11, .inl u1)), (m2, .inl (k6, 11, .inl u2)), (mt, .inl (k7, 121, .inl u3)), (mk, .inl (k8, 27, .inl (fun k9 => nI (kyf k9)))), (mr, .inl (k9c, 401, .inr (.inl u4))), (ml, .inl (k10, 64, .inr (.inl u5))), (mq, .inl (k11, 64, .inr (.inl u6))), (out, .inl (cO, 1, .inr (.inl fo)))] ++ (EW ea wa (fun k => (pa k).map ea) nm dp ct ic lf pt n ++ WW wa wd n)) [16] hP hD rfl rfl hk1 hB rfl
  have hR := q_ro hR0 hna hS
  subst hr_2
  refine q_cvi (show (nI (knn ct n)) = (nI m) from by rw [knn_eq hKN hSR]) ?_
  refine q_icmp_eq (a := m) (b := m) (tgt := 1919) hx hb dL_law_332 (by decide) (by omega) (by omega) (fun c_332 => ?_) (fun c_332 => False.elim (by exact c_332 rfl))
  exact K _ _ _ _ _ ⟨n, m, wd, ct, pa, nm, dp, ki, ea, wa, ic, lf, pt, f, fk, fc, z1, fN, z3, fr, z2, fs, nI 0, om, tm, u1, u2, u3, u4, u5, u6, fo, hI, hfe, hfk, hP, hD, hS⟩ (lv_sub hl [0, 1, 2, 3, 4] rfl) (by omega) (by omega)

set_option maxHeartbeats 4000000 in
set_option maxRecDepth 100000 in
/-- count -/
theorem lw_c337 {p : Program} {l : Launch} {e : Env} {s : State} {mi9 : MethodId} {belowM : List Frame} {methM : Method} {cM : Code} {Q : State → Prop} {D : va_G} {A : Nat → Prop} {b L i : Nat} {xs : Nat → Int32} {xo gg gr ce tr sh ar ti n1 l1 s2 a2 s3 a3 n2 l2 mo mw mct mp mnm m1 m2 mt mk mr ml mq out : Nat} {cS cS2 cG cJ1 cS3 cJ2 k1 k2 k3 k4 k5 k6 k7 k8 k9c k10 k11 cO : ClassId} {H : Heap} {locs : List Loc} {ls : Array Slot} {cells slots : Nat} (hE : LWE p l s mi9 cM D A b L xs [(cG, .int), (cS, .object "FuzzyFens$Entry"), (cJ1, .long), (cS2, .object "FuzzyFens$Entry"), (cS3, .object "FuzzyFens$Entry"), (cJ2, .long), (k1, .long), (k2, .int), (k3, .int), (k4, .int), (k5, .int), (k6, .int), (k7, .int), (k8, .int), (k9c, .long), (k10, .long), (k11, .long), (cO, .long)]) (hi : i + 5 ≤ L) (hW : LWI D s A xo gg gr ce tr sh ar ti n1 l1 s2 a2 s3 a3 n2 l2 mo mw mct mp mnm m1 m2 mt mk mr ml mq out cS cS2 cG cJ1 cS3 cJ2 k1 k2 k3 k4 k5 k6 k7 k8 k9c k10 k11 cO H locs) (hl : lv_has ls 8 [(0, .ref b), (1, .ref xo), (2, .ref mo), (3, .ref out), (4, .int (nI i))]) (hc9 : cells + 8 ≤ 601024) (hs9 : slots + 64 ≤ 7293034) (K : LWK p l e s mi9 belowM methM cM Q D A b i xo gg gr ce tr sh ar ti n1 l1 s2 a2 s3 a3 n2 l2 mo mw mct mp mnm m1 m2 mt mk mr ml mq out cS cS2 cG cJ1 cS3 cJ2 k1 k2 k3 k4 k5 k6 k7 k8 k9c k10 k11 cO cells slots) : W p l e room_1 s mi9 #[Value.ref b] belowM methM cM H locs cells slots Q (F0 mi9 337 ls []) := by
  obtain ⟨hx, hb, hml, hown, hts, hX, hbl, hbA, hA, hK, hNw, hZ, hXt, hst, hL⟩ := hE
  obtain ⟨n, m, wd, ct, pa, nm, dp, ki, ea, wa, ic, lf, pt, f, fk, fc, z1, fN, z3, fr, z2, fs, th, om, tm, u1, u2, u3, u4, u5, u6, fo, hI, hfe, hfk, hP, hD, hS⟩ := hW
  have hI0 := hI
  obtain ⟨hn40, hg, hwi, hct, hpn, hun, hnm, hnz, hdp, hKN, hSR⟩ := hI0
  have hmn := kn_le hKN hSR
  have hm : m ≤ 40 := Nat.le_trans hmn hn40
  have hki : ∀ j, j < m → ki j < n := fun j h => (hKN.1 j h).1
  have hcb : ∀ k, k < n → ct k < 2 ^ 31 := fun k h => by have := hct k h; omega
  have hnb : ∀ k, k < n → nm k < 2 ^ 31 := fun k h => by have := hnm k h; omega
  have hmz : ∀ i, i < n → ct i = 0 → m < n := fun i h h0 => kn_lt hKN hSR h h0
  have hkinj := srt_inj hSR
  have hkn := hKN.2
  have heai := q_poolinj hD
  have hR0 : va_P D vwCl [] s.heap := q_Pof (fun _ h => absurd h List.not_mem_nil)
  have hR := hR0
  have hna : ∀ q ∈ ([] : va_W), ¬ A q.1 := fun q h => absurd h List.not_mem_nil
  have hnR : (([] : va_W).map (·.1)).Nodup := List.nodup_nil
  refine lv_aload_n hx hb dL_law_337 rfl (lv_at hl 1 rfl) ?_
  refine lv_aload_n hx hb dL_law_338 rfl (lv_at hl 0 rfl) ?_
  refine lv_iload hx hb dL_law_339 (lv_at hl 4 rfl) ?_
  refine lv_iconst (v := nI 1) hx hb dL_law_341 (by decide) ?_
  refine q_iadd (d := i + 1) hx hb dL_law_342 (by omega) ?_
  refine va_sld hx hb hX hbl hbA hS (vp_in_nI (n := i + 1) (N := L) (by omega) (by omega)) dL_law_343 ?_
  rw [nI_clamp (n := i + 1) (by omega)]
  refine lv_i2l hx hb dL_law_344 rfl ?_
  refine lv_bipush (v := nI 32) hx hb dL_law_345 (by decide) ?_
  refine lv_lshl hx hb dL_law_347 rfl ?_
  refine lv_aload_n hx hb dL_law_348 rfl (lv_at hl 0 rfl) ?_
  refine lv_iload hx hb dL_law_349 (lv_at hl 4 rfl) ?_
  refine lv_iconst (v := nI 2) hx hb dL_law_351 (by decide) ?_
  refine q_iadd (d := i + 2) hx hb dL_law_352 (by omega) ?_
  refine va_sld hx hb hX hbl hbA hS (vp_in_nI (n := i + 2) (N := L) (by omega) (by omega)) dL_law_353 ?_
  rw [nI_clamp (n := i + 2) (by omega)]
  refine lv_i2l hx hb dL_law_354 rfl ?_
  refine lv_ldc2 (v := 4294967295) hx hb hown (hts (.constantLong RL 80 (4294967295)) (List.mem_of_getElem? (i := 7) rfl)) dL_law_355 ?_
  refine q_cvl (show (4294967295 : Int64) = lN 4294967295 by decide) ?_
  refine lv_land hx hb dL_law_358 ?_
  refine lv_lor hx hb dL_law_359 ?_
  obtain ⟨a, ha, hqa⟩ := q_lN ((((xs (i + 1)).toInt64) <<< ((nI 32).toInt64 &&& 63)) ||| (((xs (i + 2)).toInt64) &&& (lN 4294967295)))
  refine q_cvl hqa ?_
  refine lv_aload_n hx hb dL_law_360 rfl (lv_at hl 3 rfl) ?_
  have hF := va_free (wc := [(out, .inl (cO, 1, .inr (.inl fo)))]) hD hS hA [28] rfl
  refine va_calli (vx_runSW (As := [.ref xo, .long (lN a), .ref out]) (rest := []) ⟨hx, hb, hml, hown, hts⟩ (c_L_count (l := l) (D := D) (xo := xo) (gg := gg) (gr := gr) (ce := ce) (tr := tr) (sh := sh) (ar := ar) (ti := ti) (n1 := n1) (l1 := l1) (s2 := s2) (a2 := a2) (s3 := s3) (a3 := a3) (n2 := n2) (l2 := l2) (cS := cS) (f := f) (ea := ea) (wa := wa) (pf := (fun k => (pa k).map ea)) (cn := nm) (dp := dp) (oc := ct) (ic := ic) (lf := lf) (pt := pt) (wd := wd) (n := n) (a := a) (out := out) (cO := cO) (fo := fo) (sz := H.size) (hnd := (q_ndt (q_ndsw (q_ndg (l1 := [xo, gg, gr, ce, tr, sh, ar, ti, n1, l1, s2, a2, s3, a3, n2, l2, mo, mw, mct, mp, mnm, m1, m2, mt, mk, mr, ml, mq, out] ++ (rg ea n ++ rg wa n)) (l2 := []) hD hnR hna (by rw [List.map_append, List.map_append, EW_fst, WW_fst]; rfl) rfl)) [28, 0, 4, 5, 6] rfl rfl)) (hst := hst) (ha := by omega) (hfe := hfe) (hn40 := hn40) (hg := hg)) (vx_cwSW 3 hts gL_law_L_count rfl rfl rfl (by decide +kernel) ⟨Nat.le_of_ble_eq_true rfl, Nat.le_of_ble_eq_true rfl⟩) ⟨qWx_blind, (qWx_of (va_P.app (hP.sub (ws' := [(xo, .inr (8, [.ref gg, .ref tr, .ref ti, .ref s2, .ref s3, .ref n2])), (tr, .inr (5, [.ref sh])), (sh, .inr (4, [.ref ar, .int (nI n)])), (ar, .inl (cS, 40, .inr (.inr (.inr (.inr f)))))]) [0, 4, 5, 6] rfl) (q_right hP)) (hP.sub (ws' := [(out, .inl (cO, 1, .inr (.inl fo)))]) [28] rfl) (hK.sub (tys' := [(cO, .long), (cS, .object "FuzzyFens$Entry")]) [17, 1] rfl) hNw (qZ_at hZ hS (fun q h => hF q h)) hXt)⟩ rfl rfl hl.1 rfl (lv_room (Nat.le_of_ble_eq_true rfl)) dL_law_361 ⟨by show _ ≤ 601024; omega, by show _ ≤ 7293034; omega⟩) hS (fun q _ h => hF q h) hF (fun rv8 u_5 t_4 H_2 locs_3 ht hvm hrv8 hB hz1 hk1 hS => ?_)
  obtain ⟨fo8, rfl⟩ : ∃ z, z = u_5 := ⟨_, rfl⟩
  replace hB : va_P D vwCl [(out, .inl (cO, 1, .inr (.inl fo8)))] H_2 := by rw [← ht]; exact hB
  obtain ⟨hP, hD⟩ := q_join (wc := [(out, .inl (cO, 1, .inr (.inl fo)))]) (w1 := [(out, .inl (cO, 1, .inr (.inl fo8)))]) (ws' := [(xo, .inr (8, [.ref gg, .ref tr, .ref ti, .ref s2, .ref s3, .ref n2])), (gg, .inr (1, [.ref gr])), (gr, .inr (2, [.ref ce])), (ce, .inl (cG, 121, .inl fc)), (tr, .inr (5, [.ref sh])), (sh, .inr (4, [.ref ar, .int (nI n)])), (ar, .inl (cS, 40, .inr (.inr (.inr (.inr f))))), (ti, .inr (6, [.ref n1])), (n1, .inr (3, [.ref l1, .int z1])), (l1, .inl (cJ1, 401, .inr (.inl fN))), (s2, .inr (4, [.ref a2, .int (nI m)])), (a2, .inl (cS2, 40, .inr (.inr (.inr (.inr fk))))), (s3, .inr (4, [.ref a3, .int z3])), (a3, .inl (cS3, 40, .inr (.inr (.inr (.inr fr))))), (n2, .inr (3, [.ref l2, .int z2])), (l2, .inl (cJ2, 56, .inr (.inl fs))), (mo, .inr (9, [.int th, .int (nI n), .ref mw, .ref mct, .ref mp, .ref mnm, .ref m1, .ref m2, .int om, .int tm, .ref mt, .ref mk, .ref mr, .ref ml, .ref mq])), (mw, .inl (k1, 40, .inr (.inl (fun k9 => lN (wd k9))))), (mct, .inl (k2, 40, .inl (fun k9 => nI (ct k9)))), (mp, .inl (k3, 40, .inl (fun k9 => pin (pa k9)))), (mnm, .inl (k4, 40, .inl (fun k9 => nI (nm k9)))), (m1, .inl (k5, 11, .inl u1)), (m2, .inl (k6, 11, .inl u2)), (mt, .inl (k7, 121, .inl u3)), (mk, .inl (k8, 27, .inl (fun k9 => nI (kyf k9)))), (mr, .inl (k9c, 401, .inr (.inl u4))), (ml, .inl (k10, 64, .inr (.inl u5))), (mq, .inl (k11, 64, .inr (.inl u6))), (out, .inl (cO, 1, .inr (.inl fo8)))] ++ (EW ea wa (fun k => (pa k).map ea) nm dp ct ic lf pt n ++ WW wa wd n)) [28] hP hD rfl rfl hk1 hB rfl
  have hR := q_ro hR0 hna hS
  have hF8 := hrv8
  refine lv_istore (lv' := [(5, .int rv8), (0, .ref b), (1, .ref xo), (2, .ref mo), (3, .ref out), (4, .int (nI i))]) hx hb dL_law_364 hl (by decide) rfl (fun ls hl => ?_)
  refine lv_aload_n hx hb dL_law_366 rfl (lv_at hl 3 rfl) ?_
  refine lv_aload_n hx hb dL_law_367 rfl (lv_at hl 1 rfl) ?_
  refine lv_iload hx hb dL_law_368 (lv_at hl 5 rfl) ?_
  refine lv_iconst (v := nI 1) hx hb dL_law_370 (by decide) ?_
  refine q_iadd (d := i + 1) hx hb dL_law_371 (by omega) ?_
  refine va_sld hx hb hX hbl hbA hS (vp_in_nI (n := i + 1) (N := L) (by omega) (by omega)) dL_law_372 ?_
  rw [nI_clamp (n := i + 1) (by omega)]
  refine lv_i2l hx hb dL_law_373 rfl ?_
  refine lv_bipush (v := nI 32) hx hb dL_law_374 (by decide) ?_
  refine lv_lshl hx hb dL_law_376 rfl ?_
  refine lv_aload_n hx hb dL_law_377 rfl (lv_at hl 1 rfl) ?_
  refine lv_iload hx hb dL_law_378 (lv_at hl 5 rfl) ?_
  refine lv_iconst (v := nI 2) hx hb dL_law_380 (by decide) ?_
  refine q_iadd (d := i + 2) hx hb dL_law_381 (by omega) ?_
  refine va_sld hx hb hX hbl hbA hS (vp_in_nI (n := i + 2) (N := L) (by omega) (by omega)) dL_law_382 ?_
  rw [nI_clamp (n := i + 2) (by omega)]
  refine lv_i2l hx hb dL_law_383 rfl ?_
  refine lv_ldc2 (v := 4294967295) hx hb hown (hts (.constantLong RL 80 (4294967295)) (List.mem_of_getElem? (i := 7) rfl)) dL_law_384 ?_
  refine q_cvl (show (4294967295 : Int64) = lN 4294967295 by decide) ?_
  refine lv_land hx hb dL_law_387 ?_
  refine lv_lor hx hb dL_law_388 ?_
  refine q_cvl hqa ?_
  have hF := va_free (wc := [(mo, .inr (9, [.int th, .int (nI n), .ref mw, .ref mct, .ref mp, .ref mnm, .ref m1, .ref m2, .int om, .int tm, .ref mt, .ref mk, .ref mr, .ref ml, .ref mq]))]) hD hS hA [16] rfl
  refine va_calli (va_runV (As := [.long (lN a)]) (rest := []) ⟨hx, hb, hml, hown, hts⟩ (c_X10_count (l := l) (D := D) (mo := mo) (mw := mw) (mct := mct) (mp := mp) (mnm := mnm) (m1 := m1) (m2 := m2) (mt := mt) (mk := mk) (mr := mr) (ml := ml) (mq := mq) (k1 := k1) (k2 := k2) (th := th) (n := n) (om := om) (tm := tm) (wd := wd) (ct := ct) (a := a) (sz := H_2.size) (hnd := (q_nds (q_ndl (q_ndsw (q_ndg (l1 := [xo, gg, gr, ce, tr, sh, ar, ti, n1, l1, s2, a2, s3, a3, n2, l2, mo, mw, mct, mp, mnm, m1, m2, mt, mk, mr, ml, mq, out] ++ (rg ea n ++ rg wa n)) (l2 := []) hD hnR hna (by rw [List.map_append, List.map_append, EW_fst, WW_fst]; rfl) rfl))) [16, 17, 18] rfl rfl)) (ha := by omega) (hn40 := hn40) (hgw := hg) (hinj := hwi)) (cwV 1 hts gL_law_X10_count rfl rfl rfl (by decide +kernel) ⟨Nat.le_of_ble_eq_true rfl, Nat.le_of_ble_eq_true rfl⟩) ⟨qW_blind, (va_recv hK hP (ci := 9) (q0 := 16) rfl rfl), (qW_of (hP.sub (ws' := [(mw, .inl (k1, 40, .inr (.inl (fun k9 => lN (wd k9))))), (mct, .inl (k2, 40, .inl (fun k9 => nI (ct k9))))]) [17, 18] rfl) (hP.sub (ws' := [(mo, .inr (9, [.int th, .int (nI n), .ref mw, .ref mct, .ref mp, .ref mnm, .ref m1, .ref m2, .int om, .int tm, .ref mt, .ref mk, .ref mr, .ref ml, .ref mq]))]) [16] rfl) (hK.sub (tys' := [(k1, .long), (k2, .int)]) [6, 7] rfl) hNw)⟩ rfl rfl hl.1 rfl (lv_room (Nat.le_of_ble_eq_true rfl)) dL_law_389 ⟨by show _ ≤ 601024; omega, by show _ ≤ 7293034; omega⟩) hS (fun q _ h => hF q h) hF (fun rb8 u_10 t_9 H_7 locs_8 ht hvm hrb8 hB hz1 hk1 hS => ?_)
  obtain ⟨t8, rfl⟩ : ∃ z, z = u_10 := ⟨_, rfl⟩
  replace hB : va_P D vwCl [(mo, .inr (9, [.int t8, .int (nI n), .ref mw, .ref mct, .ref mp, .ref mnm, .ref m1, .ref m2, .int om, .int tm, .ref mt, .ref mk, .ref mr, .ref ml, .ref mq]))] H_7 := by rw [← ht]; exact hB
  obtain ⟨hP, hD⟩ := q_join (wc := [(mo, .inr (9, [.int th, .int (nI n), .ref mw, .ref mct, .ref mp, .ref mnm, .ref m1, .ref m2, .int om, .int tm, .ref mt, .ref mk, .ref mr, .ref ml, .ref mq]))]) (w1 := [(mo, .inr (9, [.int t8, .int (nI n), .ref mw, .ref mct, .ref mp, .ref mnm, .ref m1, .ref m2, .int om, .int tm, .ref mt, .ref mk, .ref mr, .ref ml, .ref mq]))]) (ws' := [(xo, .inr (8, [.ref gg, .ref tr, .ref ti, .ref s2, .ref s3, .ref n2])), (gg, .inr (1, [.ref gr])), (gr, .inr (2, [.ref ce])), (ce, .inl (cG, 121, .inl fc)), (tr, .inr (5, [.ref sh])), (sh, .inr (4, [.ref ar, .int (nI n)])), (ar, .inl (cS, 40, .inr (.inr (.inr (.inr f))))), (ti, .inr (6, [.ref n1])), (n1, .inr (3, [.ref l1, .int z1])), (l1, .inl (cJ1, 401, .inr (.inl fN))), (s2, .inr (4, [.ref a2, .int (nI m)])), (a2, .inl (cS2, 40, .inr (.inr (.inr (.inr fk))))), (s3, .inr (4, [.ref a3, .int z3])), (a3, .inl (cS3, 40, .inr (.inr (.inr (.inr fr))))), (n2, .inr (3, [.ref l2, .int z2])), (l2, .inl (cJ2, 56, .inr (.inl fs))), (mo, .inr (9, [.int t8, .int (nI n), .ref mw, .ref mct, .ref mp, .ref mnm, .ref m1, .ref m2, .int om, .int tm, .ref mt, .ref mk, .ref mr, .ref ml, .ref mq])), (mw, .inl (k1, 40, .inr (.inl (fun k9 => lN (wd k9))))), (mct, .inl (k2, 40, .inl (fun k9 => nI (ct k9)))), (mp, .inl (k3, 40, .inl (fun k9 => pin (pa k9)))), (mnm, .inl (k4, 40, .inl (fun k9 => nI (nm k9)))), (m1, .inl (k5, 11, .inl u1)), (m2, .inl (k6, 11, .inl u2)), (mt, .inl (k7, 121, .inl u3)), (mk, .inl (k8, 27, .inl (fun k9 => nI (kyf k9)))), (mr, .inl (k9c, 401, .inr (.inl u4))), (ml, .inl (k10, 64, .inr (.inl u5))), (mq, .inl (k11, 64, .inr (.inl u6))), (out, .inl (cO, 1, .inr (.inl fo8)))] ++ (EW ea wa (fun k => (pa k).map ea) nm dp ct ic lf pt n ++ WW wa wd n)) [16] hP hD rfl rfl hk1 hB rfl
  have hR := q_ro hR0 hna hS
  obtain ⟨g80, g81⟩ := hrb8
  have hE : t8 = rv8 ∧ (rv8 = 0 → fo8 0 = (rb8).toInt64) := q_hv1 hF8 g80 (fun h9 => by rw [g81 h9])
  refine lv_istore (lv' := [(6, .int rb8), (5, .int rv8), (0, .ref b), (1, .ref xo), (2, .ref mo), (3, .ref out), (4, .int (nI i))]) hx hb dL_law_392 hl (by decide) rfl (fun ls hl => ?_)
  refine lv_aload_n hx hb dL_law_394 rfl (lv_at hl 4 rfl) ?_
  refine vp_callSi (W.runV (As := []) (rest := []) ⟨hx, hb, hml, hown, hts⟩ (c_X10_thrown (l := l) (D := D) (mo := mo) (mw := mw) (mct := mct) (mp := mp) (mnm := mnm) (m1 := m1) (m2 := m2) (mt := mt) (mk := mk) (mr := mr) (ml := ml) (mq := mq) (th := t8) (n := n) (om := om) (tm := tm) ) (cwV 0 hts gL_law_X10_thrown rfl rfl rfl (by decide +kernel) ⟨Nat.le_of_ble_eq_true rfl, Nat.le_of_ble_eq_true rfl⟩) ⟨qP_blind, (va_recv hK hP (ci := 9) (q0 := 16) rfl rfl), (qP_of (hP.sub (ws' := [(mo, .inr (9, [.int t8, .int (nI n), .ref mw, .ref mct, .ref mp, .ref mnm, .ref m1, .ref m2, .int om, .int tm, .ref mt, .ref mk, .ref mr, .ref ml, .ref mq]))]) [16] rfl) (hK.sub (tys' := []) [] rfl) hNw)⟩ rfl rfl hl.1 rfl (lv_room (Nat.le_of_ble_eq_true rfl)) dL_law_395 ⟨by show _ ≤ 601024; omega, by show _ ≤ 7293034; omega⟩) (fun r_11 hr_11 => ?_)
  have hr_11 := hr_11.symm
  subst hr_11
  refine lv_iload hx hb dL_law_398 (lv_at hl 1 rfl) ?_
  refine lv_icmp_eq (tgt := 405) hx hb dL_law_400 (by decide) (fun c_400 => ?_) (fun c_400 => False.elim (by exact c_400 hE.1))
  refine lv_iload hx hb dL_law_405 (lv_at hl 1 rfl) ?_
  refine lv_if_ne (tgt := 422) hx hb dL_law_407 (by decide) (fun c_407 => ?_) (fun c_407 => ?_)
  · skip
    refine lv_goto (tgt := 1919) hx hb dL_law_422 (by decide) ?_
    exact K _ _ _ _ _ ⟨n, m, wd, ct, pa, nm, dp, ki, ea, wa, ic, lf, pt, f, fk, fc, z1, fN, z3, fr, z2, fs, t8, om, tm, u1, u2, u3, u4, u5, u6, fo8, hI, hfe, hfk, hP, hD, hS⟩ (lv_sub hl [2, 3, 4, 5, 6] rfl) (by omega) (by omega)
  · skip
    refine lv_aload_n hx hb dL_law_410 rfl (lv_at hl 5 rfl) ?_
    refine lv_iconst (v := nI 0) hx hb dL_law_411 (by decide) ?_
    refine va_lald (D := D) hx hb hK hP 28 17 rfl rfl (vp_in_nI (n := 0) (N := 1) (by omega) (by decide)) dL_law_412 ?_
    rw [nI_clamp (n := 0) (by omega)]
    refine lv_iload hx hb dL_law_413 (lv_at hl 0 rfl) ?_
    refine lv_i2l hx hb dL_law_415 rfl ?_
    refine W.lcmp hx hb dL_law_416 ?_
    refine q_lr_eq (tgt := 422) hx hb dL_law_417 (by decide) (fun c_417 => ?_) (fun c_417 => False.elim (by exact c_417 (hE.2 c_407)))
    refine lv_goto (tgt := 1919) hx hb dL_law_422 (by decide) ?_
    exact K _ _ _ _ _ ⟨n, m, wd, ct, pa, nm, dp, ki, ea, wa, ic, lf, pt, f, fk, fc, z1, fN, z3, fr, z2, fs, t8, om, tm, u1, u2, u3, u4, u5, u6, fo8, hI, hfe, hfk, hP, hD, hS⟩ (lv_sub hl [2, 3, 4, 5, 6] rfl) (by omega) (by omega)

set_option maxHeartbeats 4000000 in
set_option maxRecDepth 100000 in
/-- wordAt -/
theorem lw_c425 {p : Program} {l : Launch} {e : Env} {s : State} {mi9 : MethodId} {belowM : List Frame} {methM : Method} {cM : Code} {Q : State → Prop} {D : va_G} {A : Nat → Prop} {b L i : Nat} {xs : Nat → Int32} {xo gg gr ce tr sh ar ti n1 l1 s2 a2 s3 a3 n2 l2 mo mw mct mp mnm m1 m2 mt mk mr ml mq out : Nat} {cS cS2 cG cJ1 cS3 cJ2 k1 k2 k3 k4 k5 k6 k7 k8 k9c k10 k11 cO : ClassId} {H : Heap} {locs : List Loc} {ls : Array Slot} {cells slots : Nat} (hE : LWE p l s mi9 cM D A b L xs [(cG, .int), (cS, .object "FuzzyFens$Entry"), (cJ1, .long), (cS2, .object "FuzzyFens$Entry"), (cS3, .object "FuzzyFens$Entry"), (cJ2, .long), (k1, .long), (k2, .int), (k3, .int), (k4, .int), (k5, .int), (k6, .int), (k7, .int), (k8, .int), (k9c, .long), (k10, .long), (k11, .long), (cO, .long)]) (hi : i + 5 ≤ L) (hW : LWI D s A xo gg gr ce tr sh ar ti n1 l1 s2 a2 s3 a3 n2 l2 mo mw mct mp mnm m1 m2 mt mk mr ml mq out cS cS2 cG cJ1 cS3 cJ2 k1 k2 k3 k4 k5 k6 k7 k8 k9c k10 k11 cO H locs) (hl : lv_has ls 8 [(0, .ref b), (1, .ref xo), (2, .ref mo), (3, .ref out), (4, .int (nI i))]) (hc9 : cells + 8 ≤ 601024) (hs9 : slots + 64 ≤ 7293034) (K : LWK p l e s mi9 belowM methM cM Q D A b i xo gg gr ce tr sh ar ti n1 l1 s2 a2 s3 a3 n2 l2 mo mw mct mp mnm m1 m2 mt mk mr ml mq out cS cS2 cG cJ1 cS3 cJ2 k1 k2 k3 k4 k5 k6 k7 k8 k9c k10 k11 cO cells slots) : W p l e room_1 s mi9 #[Value.ref b] belowM methM cM H locs cells slots Q (F0 mi9 425 ls []) := by
  obtain ⟨hx, hb, hml, hown, hts, hX, hbl, hbA, hA, hK, hNw, hZ, hXt, hst, hL⟩ := hE
  obtain ⟨n, m, wd, ct, pa, nm, dp, ki, ea, wa, ic, lf, pt, f, fk, fc, z1, fN, z3, fr, z2, fs, th, om, tm, u1, u2, u3, u4, u5, u6, fo, hI, hfe, hfk, hP, hD, hS⟩ := hW
  have hI0 := hI
  obtain ⟨hn40, hg, hwi, hct, hpn, hun, hnm, hnz, hdp, hKN, hSR⟩ := hI0
  have hmn := kn_le hKN hSR
  have hm : m ≤ 40 := Nat.le_trans hmn hn40
  have hki : ∀ j, j < m → ki j < n := fun j h => (hKN.1 j h).1
  have hcb : ∀ k, k < n → ct k < 2 ^ 31 := fun k h => by have := hct k h; omega
  have hnb : ∀ k, k < n → nm k < 2 ^ 31 := fun k h => by have := hnm k h; omega
  have hmz : ∀ i, i < n → ct i = 0 → m < n := fun i h h0 => kn_lt hKN hSR h h0
  have hkinj := srt_inj hSR
  have hkn := hKN.2
  have heai := q_poolinj hD
  have hR0 : va_P D vwCl [] s.heap := q_Pof (fun _ h => absurd h List.not_mem_nil)
  have hR := hR0
  have hna : ∀ q ∈ ([] : va_W), ¬ A q.1 := fun q h => absurd h List.not_mem_nil
  have hnR : (([] : va_W).map (·.1)).Nodup := List.nodup_nil
  refine lv_aload_n hx hb dL_law_425 rfl (lv_at hl 1 rfl) ?_
  refine lv_aload_n hx hb dL_law_426 rfl (lv_at hl 0 rfl) ?_
  refine lv_iload hx hb dL_law_427 (lv_at hl 4 rfl) ?_
  refine lv_iconst (v := nI 1) hx hb dL_law_429 (by decide) ?_
  refine q_iadd (d := i + 1) hx hb dL_law_430 (by omega) ?_
  refine va_sld hx hb hX hbl hbA hS (vp_in_nI (n := i + 1) (N := L) (by omega) (by omega)) dL_law_431 ?_
  rw [nI_clamp (n := i + 1) (by omega)]
  refine lv_aload_n hx hb dL_law_432 rfl (lv_at hl 3 rfl) ?_
  have hF := va_free (wc := [(out, .inl (cO, 1, .inr (.inl fo)))]) hD hS hA [28] rfl
  refine va_calli (vx_runSW (As := [.ref xo, .int (xs (i + 1)), .ref out]) (rest := []) ⟨hx, hb, hml, hown, hts⟩ (c_L_wordAt (l := l) (D := D) (xo := xo) (gg := gg) (gr := gr) (ce := ce) (tr := tr) (sh := sh) (ar := ar) (ti := ti) (n1 := n1) (l1 := l1) (s2 := s2) (a2 := a2) (s3 := s3) (a3 := a3) (n2 := n2) (l2 := l2) (cS2 := cS2) (fk := fk) (m := m) (ki := ki) (ea := ea) (wa := wa) (pf := (fun k => (pa k).map ea)) (cn := nm) (dp := dp) (oc := ct) (ic := ic) (lf := lf) (pt := pt) (wd := wd) (n := n) (x9 := xs (i + 1)) (out := out) (cO := cO) (fo := fo) (sz := H.size) (hnd := (q_ndt (q_ndsw (q_ndg (l1 := [xo, gg, gr, ce, tr, sh, ar, ti, n1, l1, s2, a2, s3, a3, n2, l2, mo, mw, mct, mp, mnm, m1, m2, mt, mk, mr, ml, mq, out] ++ (rg ea n ++ rg wa n)) (l2 := []) hD hnR hna (by rw [List.map_append, List.map_append, EW_fst, WW_fst]; rfl) rfl)) [28, 0, 10, 11] rfl rfl)) (hst := hst) (hm := hm) (hf := hfk) (hki := hki)) (vx_cwSW 3 hts gL_law_L_wordAt rfl rfl rfl (by decide +kernel) ⟨Nat.le_of_ble_eq_true rfl, Nat.le_of_ble_eq_true rfl⟩) ⟨qWx_blind, (qWx_of (va_P.app (hP.sub (ws' := [(xo, .inr (8, [.ref gg, .ref tr, .ref ti, .ref s2, .ref s3, .ref n2])), (s2, .inr (4, [.ref a2, .int (nI m)])), (a2, .inl (cS2, 40, .inr (.inr (.inr (.inr fk)))))]) [0, 10, 11] rfl) (q_right hP)) (hP.sub (ws' := [(out, .inl (cO, 1, .inr (.inl fo)))]) [28] rfl) (hK.sub (tys' := [(cO, .long), (cS2, .object "FuzzyFens$Entry")]) [17, 3] rfl) hNw (qZ_at hZ hS (fun q h => hF q h)) hXt)⟩ rfl rfl hl.1 rfl (lv_room (Nat.le_of_ble_eq_true rfl)) dL_law_433 ⟨by show _ ≤ 601024; omega, by show _ ≤ 7293034; omega⟩) hS (fun q _ h => hF q h) hF (fun rv8 u_5 t_4 H_2 locs_3 ht hvm hrv8 hB hz1 hk1 hS => ?_)
  obtain ⟨fo8, rfl⟩ : ∃ z, z = u_5 := ⟨_, rfl⟩
  replace hB : va_P D vwCl [(out, .inl (cO, 1, .inr (.inl fo8)))] H_2 := by rw [← ht]; exact hB
  obtain ⟨hP, hD⟩ := q_join (wc := [(out, .inl (cO, 1, .inr (.inl fo)))]) (w1 := [(out, .inl (cO, 1, .inr (.inl fo8)))]) (ws' := [(xo, .inr (8, [.ref gg, .ref tr, .ref ti, .ref s2, .ref s3, .ref n2])), (gg, .inr (1, [.ref gr])), (gr, .inr (2, [.ref ce])), (ce, .inl (cG, 121, .inl fc)), (tr, .inr (5, [.ref sh])), (sh, .inr (4, [.ref ar, .int (nI n)])), (ar, .inl (cS, 40, .inr (.inr (.inr (.inr f))))), (ti, .inr (6, [.ref n1])), (n1, .inr (3, [.ref l1, .int z1])), (l1, .inl (cJ1, 401, .inr (.inl fN))), (s2, .inr (4, [.ref a2, .int (nI m)])), (a2, .inl (cS2, 40, .inr (.inr (.inr (.inr fk))))), (s3, .inr (4, [.ref a3, .int z3])), (a3, .inl (cS3, 40, .inr (.inr (.inr (.inr fr))))), (n2, .inr (3, [.ref l2, .int z2])), (l2, .inl (cJ2, 56, .inr (.inl fs))), (mo, .inr (9, [.int th, .int (nI n), .ref mw, .ref mct, .ref mp, .ref mnm, .ref m1, .ref m2, .int om, .int tm, .ref mt, .ref mk, .ref mr, .ref ml, .ref mq])), (mw, .inl (k1, 40, .inr (.inl (fun k9 => lN (wd k9))))), (mct, .inl (k2, 40, .inl (fun k9 => nI (ct k9)))), (mp, .inl (k3, 40, .inl (fun k9 => pin (pa k9)))), (mnm, .inl (k4, 40, .inl (fun k9 => nI (nm k9)))), (m1, .inl (k5, 11, .inl u1)), (m2, .inl (k6, 11, .inl u2)), (mt, .inl (k7, 121, .inl u3)), (mk, .inl (k8, 27, .inl (fun k9 => nI (kyf k9)))), (mr, .inl (k9c, 401, .inr (.inl u4))), (ml, .inl (k10, 64, .inr (.inl u5))), (mq, .inl (k11, 64, .inr (.inl u6))), (out, .inl (cO, 1, .inr (.inl fo8)))] ++ (EW ea wa (fun k => (pa k).map ea) nm dp ct ic lf pt n ++ WW wa wd n)) [28] hP hD rfl rfl hk1 hB rfl
  have hR := q_ro hR0 hna hS
  have hF8 := hrv8
  refine lv_istore (lv' := [(5, .int rv8), (0, .ref b), (1, .ref xo), (2, .ref mo), (3, .ref out), (4, .int (nI i))]) hx hb dL_law_436 hl (by decide) rfl (fun ls hl => ?_)
  refine lv_aload_n hx hb dL_law_438 rfl (lv_at hl 3 rfl) ?_
  refine lv_aload_n hx hb dL_law_439 rfl (lv_at hl 1 rfl) ?_
  refine lv_iload hx hb dL_law_440 (lv_at hl 5 rfl) ?_
  refine lv_iconst (v := nI 1) hx hb dL_law_442 (by decide) ?_
  refine q_iadd (d := i + 1) hx hb dL_law_443 (by omega) ?_
  refine va_sld hx hb hX hbl hbA hS (vp_in_nI (n := i + 1) (N := L) (by omega) (by omega)) dL_law_444 ?_
  rw [nI_clamp (n := i + 1) (by omega)]
  have hF := va_free (wc := [(mo, .inr (9, [.int th, .int (nI n), .ref mw, .ref mct, .ref mp, .ref mnm, .ref m1, .ref m2, .int om, .int tm, .ref mt, .ref mk, .ref mr, .ref ml, .ref mq]))]) hD hS hA [16] rfl
  refine va_calll (va_runV (As := [.int (xs (i + 1))]) (rest := []) ⟨hx, hb, hml, hown, hts⟩ (c_X10_wordAt (l := l) (D := D) (mo := mo) (mw := mw) (mct := mct) (mp := mp) (mnm := mnm) (m1 := m1) (m2 := m2) (mt := mt) (mk := mk) (mr := mr) (ml := ml) (mq := mq) (k1 := k1) (k2 := k2) (th := th) (n := n) (om := om) (tm := tm) (wd := wd) (ct := ct) (x9 := xs (i + 1)) (sz := H_2.size) (hnd := (q_nds (q_ndl (q_ndsw (q_ndg (l1 := [xo, gg, gr, ce, tr, sh, ar, ti, n1, l1, s2, a2, s3, a3, n2, l2, mo, mw, mct, mp, mnm, m1, m2, mt, mk, mr, ml, mq, out] ++ (rg ea n ++ rg wa n)) (l2 := []) hD hnR hna (by rw [List.map_append, List.map_append, EW_fst, WW_fst]; rfl) rfl))) [16, 17, 18] rfl rfl)) (hn40 := hn40) (hgw := hg) (hcb := hcb)) (cwV 1 hts gL_law_X10_wordAt rfl rfl rfl (by decide +kernel) ⟨Nat.le_of_ble_eq_true rfl, Nat.le_of_ble_eq_true rfl⟩) ⟨qW_blind, (va_recv hK hP (ci := 9) (q0 := 16) rfl rfl), (qW_of (hP.sub (ws' := [(mw, .inl (k1, 40, .inr (.inl (fun k9 => lN (wd k9))))), (mct, .inl (k2, 40, .inl (fun k9 => nI (ct k9))))]) [17, 18] rfl) (hP.sub (ws' := [(mo, .inr (9, [.int th, .int (nI n), .ref mw, .ref mct, .ref mp, .ref mnm, .ref m1, .ref m2, .int om, .int tm, .ref mt, .ref mk, .ref mr, .ref ml, .ref mq]))]) [16] rfl) (hK.sub (tys' := [(k1, .long), (k2, .int)]) [6, 7] rfl) hNw)⟩ rfl rfl hl.1 rfl (lv_room (Nat.le_of_ble_eq_true rfl)) dL_law_445 ⟨by show _ ≤ 601024; omega, by show _ ≤ 7293034; omega⟩) hS (fun q _ h => hF q h) hF (fun rb8 u_10 t_9 H_7 locs_8 ht hvm hrb8 hB hz1 hk1 hS => ?_)
  obtain ⟨t8, rfl⟩ : ∃ z, z = u_10 := ⟨_, rfl⟩
  replace hB : va_P D vwCl [(mo, .inr (9, [.int t8, .int (nI n), .ref mw, .ref mct, .ref mp, .ref mnm, .ref m1, .ref m2, .int om, .int tm, .ref mt, .ref mk, .ref mr, .ref ml, .ref mq]))] H_7 := by rw [← ht]; exact hB
  obtain ⟨hP, hD⟩ := q_join (wc := [(mo, .inr (9, [.int th, .int (nI n), .ref mw, .ref mct, .ref mp, .ref mnm, .ref m1, .ref m2, .int om, .int tm, .ref mt, .ref mk, .ref mr, .ref ml, .ref mq]))]) (w1 := [(mo, .inr (9, [.int t8, .int (nI n), .ref mw, .ref mct, .ref mp, .ref mnm, .ref m1, .ref m2, .int om, .int tm, .ref mt, .ref mk, .ref mr, .ref ml, .ref mq]))]) (ws' := [(xo, .inr (8, [.ref gg, .ref tr, .ref ti, .ref s2, .ref s3, .ref n2])), (gg, .inr (1, [.ref gr])), (gr, .inr (2, [.ref ce])), (ce, .inl (cG, 121, .inl fc)), (tr, .inr (5, [.ref sh])), (sh, .inr (4, [.ref ar, .int (nI n)])), (ar, .inl (cS, 40, .inr (.inr (.inr (.inr f))))), (ti, .inr (6, [.ref n1])), (n1, .inr (3, [.ref l1, .int z1])), (l1, .inl (cJ1, 401, .inr (.inl fN))), (s2, .inr (4, [.ref a2, .int (nI m)])), (a2, .inl (cS2, 40, .inr (.inr (.inr (.inr fk))))), (s3, .inr (4, [.ref a3, .int z3])), (a3, .inl (cS3, 40, .inr (.inr (.inr (.inr fr))))), (n2, .inr (3, [.ref l2, .int z2])), (l2, .inl (cJ2, 56, .inr (.inl fs))), (mo, .inr (9, [.int t8, .int (nI n), .ref mw, .ref mct, .ref mp, .ref mnm, .ref m1, .ref m2, .int om, .int tm, .ref mt, .ref mk, .ref mr, .ref ml, .ref mq])), (mw, .inl (k1, 40, .inr (.inl (fun k9 => lN (wd k9))))), (mct, .inl (k2, 40, .inl (fun k9 => nI (ct k9)))), (mp, .inl (k3, 40, .inl (fun k9 => pin (pa k9)))), (mnm, .inl (k4, 40, .inl (fun k9 => nI (nm k9)))), (m1, .inl (k5, 11, .inl u1)), (m2, .inl (k6, 11, .inl u2)), (mt, .inl (k7, 121, .inl u3)), (mk, .inl (k8, 27, .inl (fun k9 => nI (kyf k9)))), (mr, .inl (k9c, 401, .inr (.inl u4))), (ml, .inl (k10, 64, .inr (.inl u5))), (mq, .inl (k11, 64, .inr (.inl u6))), (out, .inl (cO, 1, .inr (.inl fo8)))] ++ (EW ea wa (fun k => (pa k).map ea) nm dp ct ic lf pt n ++ WW wa wd n)) [16] hP hD rfl rfl hk1 hB rfl
  have hR := q_ro hR0 hna hS
  obtain ⟨g80, g81⟩ := hrb8
  have hE : t8 = rv8 ∧ (rv8 = 0 → fo8 0 = rb8) := q_hv1 hF8 (by rw [g80, knn_eq hKN hSR]) (fun h9 => by rw [g81 (by rw [knn_eq hKN hSR]; exact h9), kw_at hKN hSR (kz_lt (by omega) h9.1 h9.2)])
  refine lv_lstore (lv' := [(6, .long rb8), (5, .int rv8), (0, .ref b), (1, .ref xo), (2, .ref mo), (3, .ref out), (4, .int (nI i))]) hx hb dL_law_448 hl (by decide) rfl (fun ls hl => ?_)
  refine lv_aload_n hx hb dL_law_450 rfl (lv_at hl 4 rfl) ?_
  refine vp_callSi (W.runV (As := []) (rest := []) ⟨hx, hb, hml, hown, hts⟩ (c_X10_thrown (l := l) (D := D) (mo := mo) (mw := mw) (mct := mct) (mp := mp) (mnm := mnm) (m1 := m1) (m2 := m2) (mt := mt) (mk := mk) (mr := mr) (ml := ml) (mq := mq) (th := t8) (n := n) (om := om) (tm := tm) ) (cwV 0 hts gL_law_X10_thrown rfl rfl rfl (by decide +kernel) ⟨Nat.le_of_ble_eq_true rfl, Nat.le_of_ble_eq_true rfl⟩) ⟨qP_blind, (va_recv hK hP (ci := 9) (q0 := 16) rfl rfl), (qP_of (hP.sub (ws' := [(mo, .inr (9, [.int t8, .int (nI n), .ref mw, .ref mct, .ref mp, .ref mnm, .ref m1, .ref m2, .int om, .int tm, .ref mt, .ref mk, .ref mr, .ref ml, .ref mq]))]) [16] rfl) (hK.sub (tys' := []) [] rfl) hNw)⟩ rfl rfl hl.1 rfl (lv_room (Nat.le_of_ble_eq_true rfl)) dL_law_451 ⟨by show _ ≤ 601024; omega, by show _ ≤ 7293034; omega⟩) (fun r_11 hr_11 => ?_)
  have hr_11 := hr_11.symm
  subst hr_11
  refine lv_iload hx hb dL_law_454 (lv_at hl 1 rfl) ?_
  refine lv_icmp_eq (tgt := 461) hx hb dL_law_456 (by decide) (fun c_456 => ?_) (fun c_456 => False.elim (by exact c_456 hE.1))
  refine lv_iload hx hb dL_law_461 (lv_at hl 1 rfl) ?_
  refine lv_if_ne (tgt := 477) hx hb dL_law_463 (by decide) (fun c_463 => ?_) (fun c_463 => ?_)
  · skip
    refine lv_goto (tgt := 1919) hx hb dL_law_477 (by decide) ?_
    exact K _ _ _ _ _ ⟨n, m, wd, ct, pa, nm, dp, ki, ea, wa, ic, lf, pt, f, fk, fc, z1, fN, z3, fr, z2, fs, t8, om, tm, u1, u2, u3, u4, u5, u6, fo8, hI, hfe, hfk, hP, hD, hS⟩ (lv_sub hl [2, 3, 4, 5, 6] rfl) (by omega) (by omega)
  · skip
    refine lv_aload_n hx hb dL_law_466 rfl (lv_at hl 5 rfl) ?_
    refine lv_iconst (v := nI 0) hx hb dL_law_467 (by decide) ?_
    refine va_lald (D := D) hx hb hK hP 28 17 rfl rfl (vp_in_nI (n := 0) (N := 1) (by omega) (by decide)) dL_law_468 ?_
    rw [nI_clamp (n := 0) (by omega)]
    refine lv_lload hx hb dL_law_469 (lv_at hl 0 rfl) ?_
    refine W.lcmp hx hb dL_law_471 ?_
    refine q_lr_eq (tgt := 477) hx hb dL_law_472 (by decide) (fun c_472 => ?_) (fun c_472 => False.elim (by exact c_472 (hE.2 c_463)))
    refine lv_goto (tgt := 1919) hx hb dL_law_477 (by decide) ?_
    exact K _ _ _ _ _ ⟨n, m, wd, ct, pa, nm, dp, ki, ea, wa, ic, lf, pt, f, fk, fc, z1, fN, z3, fr, z2, fs, t8, om, tm, u1, u2, u3, u4, u5, u6, fo8, hI, hfe, hfk, hP, hD, hS⟩ (lv_sub hl [2, 3, 4, 5, 6] rfl) (by omega) (by omega)

set_option maxHeartbeats 4000000 in
set_option maxRecDepth 100000 in
/-- distance -/
theorem lw_c480 {p : Program} {l : Launch} {e : Env} {s : State} {mi9 : MethodId} {belowM : List Frame} {methM : Method} {cM : Code} {Q : State → Prop} {D : va_G} {A : Nat → Prop} {b L i : Nat} {xs : Nat → Int32} {xo gg gr ce tr sh ar ti n1 l1 s2 a2 s3 a3 n2 l2 mo mw mct mp mnm m1 m2 mt mk mr ml mq out : Nat} {cS cS2 cG cJ1 cS3 cJ2 k1 k2 k3 k4 k5 k6 k7 k8 k9c k10 k11 cO : ClassId} {H : Heap} {locs : List Loc} {ls : Array Slot} {cells slots : Nat} (hE : LWE p l s mi9 cM D A b L xs [(cG, .int), (cS, .object "FuzzyFens$Entry"), (cJ1, .long), (cS2, .object "FuzzyFens$Entry"), (cS3, .object "FuzzyFens$Entry"), (cJ2, .long), (k1, .long), (k2, .int), (k3, .int), (k4, .int), (k5, .int), (k6, .int), (k7, .int), (k8, .int), (k9c, .long), (k10, .long), (k11, .long), (cO, .long)]) (hi : i + 5 ≤ L) (hW : LWI D s A xo gg gr ce tr sh ar ti n1 l1 s2 a2 s3 a3 n2 l2 mo mw mct mp mnm m1 m2 mt mk mr ml mq out cS cS2 cG cJ1 cS3 cJ2 k1 k2 k3 k4 k5 k6 k7 k8 k9c k10 k11 cO H locs) (hl : lv_has ls 8 [(0, .ref b), (1, .ref xo), (2, .ref mo), (3, .ref out), (4, .int (nI i))]) (hc9 : cells + 8 ≤ 601024) (hs9 : slots + 64 ≤ 7293034) (K : LWK p l e s mi9 belowM methM cM Q D A b i xo gg gr ce tr sh ar ti n1 l1 s2 a2 s3 a3 n2 l2 mo mw mct mp mnm m1 m2 mt mk mr ml mq out cS cS2 cG cJ1 cS3 cJ2 k1 k2 k3 k4 k5 k6 k7 k8 k9c k10 k11 cO cells slots) : W p l e room_1 s mi9 #[Value.ref b] belowM methM cM H locs cells slots Q (F0 mi9 480 ls []) := by
  obtain ⟨hx, hb, hml, hown, hts, hX, hbl, hbA, hA, hK, hNw, hZ, hXt, hst, hL⟩ := hE
  obtain ⟨n, m, wd, ct, pa, nm, dp, ki, ea, wa, ic, lf, pt, f, fk, fc, z1, fN, z3, fr, z2, fs, th, om, tm, u1, u2, u3, u4, u5, u6, fo, hI, hfe, hfk, hP, hD, hS⟩ := hW
  have hI0 := hI
  obtain ⟨hn40, hg, hwi, hct, hpn, hun, hnm, hnz, hdp, hKN, hSR⟩ := hI0
  have hmn := kn_le hKN hSR
  have hm : m ≤ 40 := Nat.le_trans hmn hn40
  have hki : ∀ j, j < m → ki j < n := fun j h => (hKN.1 j h).1
  have hcb : ∀ k, k < n → ct k < 2 ^ 31 := fun k h => by have := hct k h; omega
  have hnb : ∀ k, k < n → nm k < 2 ^ 31 := fun k h => by have := hnm k h; omega
  have hmz : ∀ i, i < n → ct i = 0 → m < n := fun i h h0 => kn_lt hKN hSR h h0
  have hkinj := srt_inj hSR
  have hkn := hKN.2
  have heai := q_poolinj hD
  have hR0 : va_P D vwCl [] s.heap := q_Pof (fun _ h => absurd h List.not_mem_nil)
  have hR := hR0
  have hna : ∀ q ∈ ([] : va_W), ¬ A q.1 := fun q h => absurd h List.not_mem_nil
  have hnR : (([] : va_W).map (·.1)).Nodup := List.nodup_nil
  refine lv_aload_n hx hb dL_law_480 rfl (lv_at hl 1 rfl) ?_
  refine lv_aload_n hx hb dL_law_481 rfl (lv_at hl 0 rfl) ?_
  refine lv_iload hx hb dL_law_482 (lv_at hl 4 rfl) ?_
  refine lv_iconst (v := nI 1) hx hb dL_law_484 (by decide) ?_
  refine q_iadd (d := i + 1) hx hb dL_law_485 (by omega) ?_
  refine va_sld hx hb hX hbl hbA hS (vp_in_nI (n := i + 1) (N := L) (by omega) (by omega)) dL_law_486 ?_
  rw [nI_clamp (n := i + 1) (by omega)]
  refine lv_i2l hx hb dL_law_487 rfl ?_
  refine lv_bipush (v := nI 32) hx hb dL_law_488 (by decide) ?_
  refine lv_lshl hx hb dL_law_490 rfl ?_
  refine lv_aload_n hx hb dL_law_491 rfl (lv_at hl 0 rfl) ?_
  refine lv_iload hx hb dL_law_492 (lv_at hl 4 rfl) ?_
  refine lv_iconst (v := nI 2) hx hb dL_law_494 (by decide) ?_
  refine q_iadd (d := i + 2) hx hb dL_law_495 (by omega) ?_
  refine va_sld hx hb hX hbl hbA hS (vp_in_nI (n := i + 2) (N := L) (by omega) (by omega)) dL_law_496 ?_
  rw [nI_clamp (n := i + 2) (by omega)]
  refine lv_i2l hx hb dL_law_497 rfl ?_
  refine lv_ldc2 (v := 4294967295) hx hb hown (hts (.constantLong RL 80 (4294967295)) (List.mem_of_getElem? (i := 7) rfl)) dL_law_498 ?_
  refine q_cvl (show (4294967295 : Int64) = lN 4294967295 by decide) ?_
  refine lv_land hx hb dL_law_501 ?_
  refine lv_lor hx hb dL_law_502 ?_
  obtain ⟨a, ha, hqa⟩ := q_lN ((((xs (i + 1)).toInt64) <<< ((nI 32).toInt64 &&& 63)) ||| (((xs (i + 2)).toInt64) &&& (lN 4294967295)))
  refine q_cvl hqa ?_
  refine lv_aload_n hx hb dL_law_503 rfl (lv_at hl 0 rfl) ?_
  refine lv_iload hx hb dL_law_504 (lv_at hl 4 rfl) ?_
  refine lv_iconst (v := nI 3) hx hb dL_law_506 (by decide) ?_
  refine q_iadd (d := i + 3) hx hb dL_law_507 (by omega) ?_
  refine va_sld hx hb hX hbl hbA hS (vp_in_nI (n := i + 3) (N := L) (by omega) (by omega)) dL_law_508 ?_
  rw [nI_clamp (n := i + 3) (by omega)]
  refine lv_i2l hx hb dL_law_509 rfl ?_
  refine lv_bipush (v := nI 32) hx hb dL_law_510 (by decide) ?_
  refine lv_lshl hx hb dL_law_512 rfl ?_
  refine lv_aload_n hx hb dL_law_513 rfl (lv_at hl 0 rfl) ?_
  refine lv_iload hx hb dL_law_514 (lv_at hl 4 rfl) ?_
  refine lv_iconst (v := nI 4) hx hb dL_law_516 (by decide) ?_
  refine q_iadd (d := i + 4) hx hb dL_law_517 (by omega) ?_
  refine va_sld hx hb hX hbl hbA hS (vp_in_nI (n := i + 4) (N := L) (by omega) (by omega)) dL_law_518 ?_
  rw [nI_clamp (n := i + 4) (by omega)]
  refine lv_i2l hx hb dL_law_519 rfl ?_
  refine lv_ldc2 (v := 4294967295) hx hb hown (hts (.constantLong RL 80 (4294967295)) (List.mem_of_getElem? (i := 7) rfl)) dL_law_520 ?_
  refine q_cvl (show (4294967295 : Int64) = lN 4294967295 by decide) ?_
  refine lv_land hx hb dL_law_523 ?_
  refine lv_lor hx hb dL_law_524 ?_
  obtain ⟨b8, hb8, hqb8⟩ := q_lN ((((xs (i + 3)).toInt64) <<< ((nI 32).toInt64 &&& 63)) ||| (((xs (i + 4)).toInt64) &&& (lN 4294967295)))
  refine q_cvl hqb8 ?_
  refine lv_aload_n hx hb dL_law_525 rfl (lv_at hl 3 rfl) ?_
  have hF := va_free (wc := [(out, .inl (cO, 1, .inr (.inl fo))), (ce, .inl (cG, 121, .inl fc))]) hD hS hA [28, 3] rfl
  refine va_calli (vx_runSW (As := [.ref xo, .long (lN a), .long (lN b8), .ref out]) (rest := []) ⟨hx, hb, hml, hown, hts⟩ (c_L_distance (l := l) (D := D) (xo := xo) (gg := gg) (gr := gr) (ce := ce) (tr := tr) (sh := sh) (ar := ar) (ti := ti) (n1 := n1) (l1 := l1) (s2 := s2) (a2 := a2) (s3 := s3) (a3 := a3) (n2 := n2) (l2 := l2) (cG := cG) (fc := fc) (a := a) (b := b8) (out := out) (cO := cO) (fo := fo) (sz := H.size) (hnd := (q_nds (q_ndl (q_ndsw (q_ndg (l1 := [xo, gg, gr, ce, tr, sh, ar, ti, n1, l1, s2, a2, s3, a3, n2, l2, mo, mw, mct, mp, mnm, m1, m2, mt, mk, mr, ml, mq, out] ++ (rg ea n ++ rg wa n)) (l2 := []) hD hnR hna (by rw [List.map_append, List.map_append, EW_fst, WW_fst]; rfl) rfl))) [28, 3, 0, 1, 2] rfl rfl)) (hst := hst) (ha := by omega) (hb9 := by omega)) (vx_cwSW 4 hts gL_law_L_distance rfl rfl rfl (by decide +kernel) ⟨Nat.le_of_ble_eq_true rfl, Nat.le_of_ble_eq_true rfl⟩) ⟨qWx_blind, (qWx_of (hP.sub (ws' := [(xo, .inr (8, [.ref gg, .ref tr, .ref ti, .ref s2, .ref s3, .ref n2])), (gg, .inr (1, [.ref gr])), (gr, .inr (2, [.ref ce]))]) [0, 1, 2] rfl) (hP.sub (ws' := [(out, .inl (cO, 1, .inr (.inl fo))), (ce, .inl (cG, 121, .inl fc))]) [28, 3] rfl) (hK.sub (tys' := [(cO, .long), (cG, .int)]) [17, 0] rfl) hNw (qZ_at hZ hS (fun q h => hF q h)) hXt)⟩ rfl rfl hl.1 rfl (lv_room (Nat.le_of_ble_eq_true rfl)) dL_law_526 ⟨by show _ ≤ 601024; omega, by show _ ≤ 7293034; omega⟩) hS (fun q _ h => hF q h) hF (fun rv8 u_5 t_4 H_2 locs_3 ht hvm hrv8 hB hz1 hk1 hS => ?_)
  obtain ⟨fc2_6, fo8⟩ := u_5
  dsimp only at hrv8 hB
  replace hB : va_P D vwCl [(out, .inl (cO, 1, .inr (.inl fo8))), (ce, .inl (cG, 121, .inl fc2_6))] H_2 := by rw [← ht]; exact hB
  obtain ⟨hP, hD⟩ := q_join (wc := [(out, .inl (cO, 1, .inr (.inl fo))), (ce, .inl (cG, 121, .inl fc))]) (w1 := [(out, .inl (cO, 1, .inr (.inl fo8))), (ce, .inl (cG, 121, .inl fc2_6))]) (ws' := [(xo, .inr (8, [.ref gg, .ref tr, .ref ti, .ref s2, .ref s3, .ref n2])), (gg, .inr (1, [.ref gr])), (gr, .inr (2, [.ref ce])), (ce, .inl (cG, 121, .inl fc2_6)), (tr, .inr (5, [.ref sh])), (sh, .inr (4, [.ref ar, .int (nI n)])), (ar, .inl (cS, 40, .inr (.inr (.inr (.inr f))))), (ti, .inr (6, [.ref n1])), (n1, .inr (3, [.ref l1, .int z1])), (l1, .inl (cJ1, 401, .inr (.inl fN))), (s2, .inr (4, [.ref a2, .int (nI m)])), (a2, .inl (cS2, 40, .inr (.inr (.inr (.inr fk))))), (s3, .inr (4, [.ref a3, .int z3])), (a3, .inl (cS3, 40, .inr (.inr (.inr (.inr fr))))), (n2, .inr (3, [.ref l2, .int z2])), (l2, .inl (cJ2, 56, .inr (.inl fs))), (mo, .inr (9, [.int th, .int (nI n), .ref mw, .ref mct, .ref mp, .ref mnm, .ref m1, .ref m2, .int om, .int tm, .ref mt, .ref mk, .ref mr, .ref ml, .ref mq])), (mw, .inl (k1, 40, .inr (.inl (fun k9 => lN (wd k9))))), (mct, .inl (k2, 40, .inl (fun k9 => nI (ct k9)))), (mp, .inl (k3, 40, .inl (fun k9 => pin (pa k9)))), (mnm, .inl (k4, 40, .inl (fun k9 => nI (nm k9)))), (m1, .inl (k5, 11, .inl u1)), (m2, .inl (k6, 11, .inl u2)), (mt, .inl (k7, 121, .inl u3)), (mk, .inl (k8, 27, .inl (fun k9 => nI (kyf k9)))), (mr, .inl (k9c, 401, .inr (.inl u4))), (ml, .inl (k10, 64, .inr (.inl u5))), (mq, .inl (k11, 64, .inr (.inl u6))), (out, .inl (cO, 1, .inr (.inl fo8)))] ++ (EW ea wa (fun k => (pa k).map ea) nm dp ct ic lf pt n ++ WW wa wd n)) [28, 3] hP hD rfl rfl hk1 hB rfl
  have hR := q_ro hR0 hna hS
  have hF8 := hrv8
  refine lv_istore (lv' := [(5, .int rv8), (0, .ref b), (1, .ref xo), (2, .ref mo), (3, .ref out), (4, .int (nI i))]) hx hb dL_law_529 hl (by decide) rfl (fun ls hl => ?_)
  refine lv_aload_n hx hb dL_law_531 rfl (lv_at hl 3 rfl) ?_
  refine lv_aload_n hx hb dL_law_532 rfl (lv_at hl 1 rfl) ?_
  refine lv_iload hx hb dL_law_533 (lv_at hl 5 rfl) ?_
  refine lv_iconst (v := nI 1) hx hb dL_law_535 (by decide) ?_
  refine q_iadd (d := i + 1) hx hb dL_law_536 (by omega) ?_
  refine va_sld hx hb hX hbl hbA hS (vp_in_nI (n := i + 1) (N := L) (by omega) (by omega)) dL_law_537 ?_
  rw [nI_clamp (n := i + 1) (by omega)]
  refine lv_i2l hx hb dL_law_538 rfl ?_
  refine lv_bipush (v := nI 32) hx hb dL_law_539 (by decide) ?_
  refine lv_lshl hx hb dL_law_541 rfl ?_
  refine lv_aload_n hx hb dL_law_542 rfl (lv_at hl 1 rfl) ?_
  refine lv_iload hx hb dL_law_543 (lv_at hl 5 rfl) ?_
  refine lv_iconst (v := nI 2) hx hb dL_law_545 (by decide) ?_
  refine q_iadd (d := i + 2) hx hb dL_law_546 (by omega) ?_
  refine va_sld hx hb hX hbl hbA hS (vp_in_nI (n := i + 2) (N := L) (by omega) (by omega)) dL_law_547 ?_
  rw [nI_clamp (n := i + 2) (by omega)]
  refine lv_i2l hx hb dL_law_548 rfl ?_
  refine lv_ldc2 (v := 4294967295) hx hb hown (hts (.constantLong RL 80 (4294967295)) (List.mem_of_getElem? (i := 7) rfl)) dL_law_549 ?_
  refine q_cvl (show (4294967295 : Int64) = lN 4294967295 by decide) ?_
  refine lv_land hx hb dL_law_552 ?_
  refine lv_lor hx hb dL_law_553 ?_
  refine q_cvl hqa ?_
  refine lv_aload_n hx hb dL_law_554 rfl (lv_at hl 1 rfl) ?_
  refine lv_iload hx hb dL_law_555 (lv_at hl 5 rfl) ?_
  refine lv_iconst (v := nI 3) hx hb dL_law_557 (by decide) ?_
  refine q_iadd (d := i + 3) hx hb dL_law_558 (by omega) ?_
  refine va_sld hx hb hX hbl hbA hS (vp_in_nI (n := i + 3) (N := L) (by omega) (by omega)) dL_law_559 ?_
  rw [nI_clamp (n := i + 3) (by omega)]
  refine lv_i2l hx hb dL_law_560 rfl ?_
  refine lv_bipush (v := nI 32) hx hb dL_law_561 (by decide) ?_
  refine lv_lshl hx hb dL_law_563 rfl ?_
  refine lv_aload_n hx hb dL_law_564 rfl (lv_at hl 1 rfl) ?_
  refine lv_iload hx hb dL_law_565 (lv_at hl 5 rfl) ?_
  refine lv_iconst (v := nI 4) hx hb dL_law_567 (by decide) ?_
  refine q_iadd (d := i + 4) hx hb dL_law_568 (by omega) ?_
  refine va_sld hx hb hX hbl hbA hS (vp_in_nI (n := i + 4) (N := L) (by omega) (by omega)) dL_law_569 ?_
  rw [nI_clamp (n := i + 4) (by omega)]
  refine lv_i2l hx hb dL_law_570 rfl ?_
  refine lv_ldc2 (v := 4294967295) hx hb hown (hts (.constantLong RL 80 (4294967295)) (List.mem_of_getElem? (i := 7) rfl)) dL_law_571 ?_
  refine q_cvl (show (4294967295 : Int64) = lN 4294967295 by decide) ?_
  refine lv_land hx hb dL_law_574 ?_
  refine lv_lor hx hb dL_law_575 ?_
  refine q_cvl hqb8 ?_
  have hF := va_free (wc := [(mo, .inr (9, [.int th, .int (nI n), .ref mw, .ref mct, .ref mp, .ref mnm, .ref m1, .ref m2, .int om, .int tm, .ref mt, .ref mk, .ref mr, .ref ml, .ref mq])), (m1, .inl (k5, 11, .inl u1)), (m2, .inl (k6, 11, .inl u2)), (mt, .inl (k7, 121, .inl u3))]) hD hS hA [16, 21, 22, 23] rfl
  refine va_calli (va_runV (As := [.long (lN a), .long (lN b8)]) (rest := []) ⟨hx, hb, hml, hown, hts⟩ (c_X10_distance (l := l) (D := D) (mo := mo) (mw := mw) (mct := mct) (mp := mp) (mnm := mnm) (m1 := m1) (m2 := m2) (mt := mt) (mk := mk) (mr := mr) (ml := ml) (mq := mq) (k5 := k5) (k6 := k6) (k7 := k7) (th := th) (n := n) (om := om) (tm := tm) (f1 := u1) (f2 := u2) (ft := u3) (a := a) (b := b8) (sz := H_2.size) (hnd := (q_nds (q_ndl (q_ndsw (q_ndg (l1 := [xo, gg, gr, ce, tr, sh, ar, ti, n1, l1, s2, a2, s3, a3, n2, l2, mo, mw, mct, mp, mnm, m1, m2, mt, mk, mr, ml, mq, out] ++ (rg ea n ++ rg wa n)) (l2 := []) hD hnR hna (by rw [List.map_append, List.map_append, EW_fst, WW_fst]; rfl) rfl))) [16, 21, 22, 23] rfl rfl)) (ha := by omega) (hb9 := by omega)) (cwV 2 hts gL_law_X10_distance rfl rfl rfl (by decide +kernel) ⟨Nat.le_of_ble_eq_true rfl, Nat.le_of_ble_eq_true rfl⟩) ⟨qW_blind, (va_recv hK hP (ci := 9) (q0 := 16) rfl rfl), (qW_of (q_Pof (fun _ h => absurd h List.not_mem_nil)) (hP.sub (ws' := [(mo, .inr (9, [.int th, .int (nI n), .ref mw, .ref mct, .ref mp, .ref mnm, .ref m1, .ref m2, .int om, .int tm, .ref mt, .ref mk, .ref mr, .ref ml, .ref mq])), (m1, .inl (k5, 11, .inl u1)), (m2, .inl (k6, 11, .inl u2)), (mt, .inl (k7, 121, .inl u3))]) [16, 21, 22, 23] rfl) (hK.sub (tys' := [(k5, .int), (k6, .int), (k7, .int)]) [10, 11, 12] rfl) hNw)⟩ rfl rfl hl.1 rfl (lv_room (Nat.le_of_ble_eq_true rfl)) dL_law_576 ⟨by show _ ≤ 601024; omega, by show _ ≤ 7293034; omega⟩) hS (fun q _ h => hF q h) hF (fun rb8 u_11 t_10 H_8 locs_9 ht hvm hrb8 hB hz1 hk1 hS => ?_)
  obtain ⟨t8, o2_12, q2_13, g1_14, g2_15, g3_16⟩ := u_11
  dsimp only at hrb8 hB
  replace hB : va_P D vwCl [(mo, .inr (9, [.int t8, .int (nI n), .ref mw, .ref mct, .ref mp, .ref mnm, .ref m1, .ref m2, .int o2_12, .int q2_13, .ref mt, .ref mk, .ref mr, .ref ml, .ref mq])), (m1, .inl (k5, 11, .inl g1_14)), (m2, .inl (k6, 11, .inl g2_15)), (mt, .inl (k7, 121, .inl g3_16))] H_8 := by rw [← ht]; exact hB
  obtain ⟨hP, hD⟩ := q_join (wc := [(mo, .inr (9, [.int th, .int (nI n), .ref mw, .ref mct, .ref mp, .ref mnm, .ref m1, .ref m2, .int om, .int tm, .ref mt, .ref mk, .ref mr, .ref ml, .ref mq])), (m1, .inl (k5, 11, .inl u1)), (m2, .inl (k6, 11, .inl u2)), (mt, .inl (k7, 121, .inl u3))]) (w1 := [(mo, .inr (9, [.int t8, .int (nI n), .ref mw, .ref mct, .ref mp, .ref mnm, .ref m1, .ref m2, .int o2_12, .int q2_13, .ref mt, .ref mk, .ref mr, .ref ml, .ref mq])), (m1, .inl (k5, 11, .inl g1_14)), (m2, .inl (k6, 11, .inl g2_15)), (mt, .inl (k7, 121, .inl g3_16))]) (ws' := [(xo, .inr (8, [.ref gg, .ref tr, .ref ti, .ref s2, .ref s3, .ref n2])), (gg, .inr (1, [.ref gr])), (gr, .inr (2, [.ref ce])), (ce, .inl (cG, 121, .inl fc2_6)), (tr, .inr (5, [.ref sh])), (sh, .inr (4, [.ref ar, .int (nI n)])), (ar, .inl (cS, 40, .inr (.inr (.inr (.inr f))))), (ti, .inr (6, [.ref n1])), (n1, .inr (3, [.ref l1, .int z1])), (l1, .inl (cJ1, 401, .inr (.inl fN))), (s2, .inr (4, [.ref a2, .int (nI m)])), (a2, .inl (cS2, 40, .inr (.inr (.inr (.inr fk))))), (s3, .inr (4, [.ref a3, .int z3])), (a3, .inl (cS3, 40, .inr (.inr (.inr (.inr fr))))), (n2, .inr (3, [.ref l2, .int z2])), (l2, .inl (cJ2, 56, .inr (.inl fs))), (mo, .inr (9, [.int t8, .int (nI n), .ref mw, .ref mct, .ref mp, .ref mnm, .ref m1, .ref m2, .int o2_12, .int q2_13, .ref mt, .ref mk, .ref mr, .ref ml, .ref mq])), (mw, .inl (k1, 40, .inr (.inl (fun k9 => lN (wd k9))))), (mct, .inl (k2, 40, .inl (fun k9 => nI (ct k9)))), (mp, .inl (k3, 40, .inl (fun k9 => pin (pa k9)))), (mnm, .inl (k4, 40, .inl (fun k9 => nI (nm k9)))), (m1, .inl (k5, 11, .inl g1_14)), (m2, .inl (k6, 11, .inl g2_15)), (mt, .inl (k7, 121, .inl g3_16)), (mk, .inl (k8, 27, .inl (fun k9 => nI (kyf k9)))), (mr, .inl (k9c, 401, .inr (.inl u4))), (ml, .inl (k10, 64, .inr (.inl u5))), (mq, .inl (k11, 64, .inr (.inl u6))), (out, .inl (cO, 1, .inr (.inl fo8)))] ++ (EW ea wa (fun k => (pa k).map ea) nm dp ct ic lf pt n ++ WW wa wd n)) [16, 21, 22, 23] hP hD rfl rfl hk1 hB rfl
  have hR := q_ro hR0 hna hS
  obtain ⟨g80, g81⟩ := hrb8
  have hE : t8 = rv8 ∧ (rv8 = 0 → fo8 0 = (rb8).toInt64) := q_hv1 hF8 g80 (fun h9 => by rw [g81 h9])
  refine lv_istore (lv' := [(6, .int rb8), (5, .int rv8), (0, .ref b), (1, .ref xo), (2, .ref mo), (3, .ref out), (4, .int (nI i))]) hx hb dL_law_579 hl (by decide) rfl (fun ls hl => ?_)
  refine lv_aload_n hx hb dL_law_581 rfl (lv_at hl 4 rfl) ?_
  refine vp_callSi (W.runV (As := []) (rest := []) ⟨hx, hb, hml, hown, hts⟩ (c_X10_thrown (l := l) (D := D) (mo := mo) (mw := mw) (mct := mct) (mp := mp) (mnm := mnm) (m1 := m1) (m2 := m2) (mt := mt) (mk := mk) (mr := mr) (ml := ml) (mq := mq) (th := t8) (n := n) (om := o2_12) (tm := q2_13) ) (cwV 0 hts gL_law_X10_thrown rfl rfl rfl (by decide +kernel) ⟨Nat.le_of_ble_eq_true rfl, Nat.le_of_ble_eq_true rfl⟩) ⟨qP_blind, (va_recv hK hP (ci := 9) (q0 := 16) rfl rfl), (qP_of (hP.sub (ws' := [(mo, .inr (9, [.int t8, .int (nI n), .ref mw, .ref mct, .ref mp, .ref mnm, .ref m1, .ref m2, .int o2_12, .int q2_13, .ref mt, .ref mk, .ref mr, .ref ml, .ref mq]))]) [16] rfl) (hK.sub (tys' := []) [] rfl) hNw)⟩ rfl rfl hl.1 rfl (lv_room (Nat.le_of_ble_eq_true rfl)) dL_law_582 ⟨by show _ ≤ 601024; omega, by show _ ≤ 7293034; omega⟩) (fun r_17 hr_17 => ?_)
  have hr_17 := hr_17.symm
  subst hr_17
  refine lv_iload hx hb dL_law_585 (lv_at hl 1 rfl) ?_
  refine lv_icmp_eq (tgt := 592) hx hb dL_law_587 (by decide) (fun c_587 => ?_) (fun c_587 => False.elim (by exact c_587 hE.1))
  refine lv_iload hx hb dL_law_592 (lv_at hl 1 rfl) ?_
  refine lv_if_ne (tgt := 609) hx hb dL_law_594 (by decide) (fun c_594 => ?_) (fun c_594 => ?_)
  · skip
    refine lv_goto (tgt := 1919) hx hb dL_law_609 (by decide) ?_
    exact K _ _ _ _ _ ⟨n, m, wd, ct, pa, nm, dp, ki, ea, wa, ic, lf, pt, f, fk, fc2_6, z1, fN, z3, fr, z2, fs, t8, o2_12, q2_13, g1_14, g2_15, g3_16, u4, u5, u6, fo8, hI, hfe, hfk, hP, hD, hS⟩ (lv_sub hl [2, 3, 4, 5, 6] rfl) (by omega) (by omega)
  · skip
    refine lv_aload_n hx hb dL_law_597 rfl (lv_at hl 5 rfl) ?_
    refine lv_iconst (v := nI 0) hx hb dL_law_598 (by decide) ?_
    refine va_lald (D := D) hx hb hK hP 28 17 rfl rfl (vp_in_nI (n := 0) (N := 1) (by omega) (by decide)) dL_law_599 ?_
    rw [nI_clamp (n := 0) (by omega)]
    refine lv_iload hx hb dL_law_600 (lv_at hl 0 rfl) ?_
    refine lv_i2l hx hb dL_law_602 rfl ?_
    refine W.lcmp hx hb dL_law_603 ?_
    refine q_lr_eq (tgt := 609) hx hb dL_law_604 (by decide) (fun c_604 => ?_) (fun c_604 => False.elim (by exact c_604 (hE.2 c_594)))
    refine lv_goto (tgt := 1919) hx hb dL_law_609 (by decide) ?_
    exact K _ _ _ _ _ ⟨n, m, wd, ct, pa, nm, dp, ki, ea, wa, ic, lf, pt, f, fk, fc2_6, z1, fN, z3, fr, z2, fs, t8, o2_12, q2_13, g1_14, g2_15, g3_16, u4, u5, u6, fo8, hI, hfe, hfk, hP, hD, hS⟩ (lv_sub hl [2, 3, 4, 5, 6] rfl) (by omega) (by omega)

set_option maxHeartbeats 4000000 in
set_option maxRecDepth 100000 in
/-- price -/
theorem lw_c612 {p : Program} {l : Launch} {e : Env} {s : State} {mi9 : MethodId} {belowM : List Frame} {methM : Method} {cM : Code} {Q : State → Prop} {D : va_G} {A : Nat → Prop} {b L i : Nat} {xs : Nat → Int32} {xo gg gr ce tr sh ar ti n1 l1 s2 a2 s3 a3 n2 l2 mo mw mct mp mnm m1 m2 mt mk mr ml mq out : Nat} {cS cS2 cG cJ1 cS3 cJ2 k1 k2 k3 k4 k5 k6 k7 k8 k9c k10 k11 cO : ClassId} {H : Heap} {locs : List Loc} {ls : Array Slot} {cells slots : Nat} (hE : LWE p l s mi9 cM D A b L xs [(cG, .int), (cS, .object "FuzzyFens$Entry"), (cJ1, .long), (cS2, .object "FuzzyFens$Entry"), (cS3, .object "FuzzyFens$Entry"), (cJ2, .long), (k1, .long), (k2, .int), (k3, .int), (k4, .int), (k5, .int), (k6, .int), (k7, .int), (k8, .int), (k9c, .long), (k10, .long), (k11, .long), (cO, .long)]) (hi : i + 5 ≤ L) (hW : LWI D s A xo gg gr ce tr sh ar ti n1 l1 s2 a2 s3 a3 n2 l2 mo mw mct mp mnm m1 m2 mt mk mr ml mq out cS cS2 cG cJ1 cS3 cJ2 k1 k2 k3 k4 k5 k6 k7 k8 k9c k10 k11 cO H locs) (hl : lv_has ls 8 [(0, .ref b), (1, .ref xo), (2, .ref mo), (3, .ref out), (4, .int (nI i))]) (hc9 : cells + 8 ≤ 601024) (hs9 : slots + 64 ≤ 7293034) (K : LWK p l e s mi9 belowM methM cM Q D A b i xo gg gr ce tr sh ar ti n1 l1 s2 a2 s3 a3 n2 l2 mo mw mct mp mnm m1 m2 mt mk mr ml mq out cS cS2 cG cJ1 cS3 cJ2 k1 k2 k3 k4 k5 k6 k7 k8 k9c k10 k11 cO cells slots) : W p l e room_1 s mi9 #[Value.ref b] belowM methM cM H locs cells slots Q (F0 mi9 612 ls []) := by
  obtain ⟨hx, hb, hml, hown, hts, hX, hbl, hbA, hA, hK, hNw, hZ, hXt, hst, hL⟩ := hE
  obtain ⟨n, m, wd, ct, pa, nm, dp, ki, ea, wa, ic, lf, pt, f, fk, fc, z1, fN, z3, fr, z2, fs, th, om, tm, u1, u2, u3, u4, u5, u6, fo, hI, hfe, hfk, hP, hD, hS⟩ := hW
  have hI0 := hI
  obtain ⟨hn40, hg, hwi, hct, hpn, hun, hnm, hnz, hdp, hKN, hSR⟩ := hI0
  have hmn := kn_le hKN hSR
  have hm : m ≤ 40 := Nat.le_trans hmn hn40
  have hki : ∀ j, j < m → ki j < n := fun j h => (hKN.1 j h).1
  have hcb : ∀ k, k < n → ct k < 2 ^ 31 := fun k h => by have := hct k h; omega
  have hnb : ∀ k, k < n → nm k < 2 ^ 31 := fun k h => by have := hnm k h; omega
  have hmz : ∀ i, i < n → ct i = 0 → m < n := fun i h h0 => kn_lt hKN hSR h h0
  have hkinj := srt_inj hSR
  have hkn := hKN.2
  have heai := q_poolinj hD
  have hR0 : va_P D vwCl [] s.heap := q_Pof (fun _ h => absurd h List.not_mem_nil)
  have hR := hR0
  have hna : ∀ q ∈ ([] : va_W), ¬ A q.1 := fun q h => absurd h List.not_mem_nil
  have hnR : (([] : va_W).map (·.1)).Nodup := List.nodup_nil
  refine lv_aload_n hx hb dL_law_612 rfl (lv_at hl 1 rfl) ?_
  refine lv_aload_n hx hb dL_law_613 rfl (lv_at hl 0 rfl) ?_
  refine lv_iload hx hb dL_law_614 (lv_at hl 4 rfl) ?_
  refine lv_iconst (v := nI 1) hx hb dL_law_616 (by decide) ?_
  refine q_iadd (d := i + 1) hx hb dL_law_617 (by omega) ?_
  refine va_sld hx hb hX hbl hbA hS (vp_in_nI (n := i + 1) (N := L) (by omega) (by omega)) dL_law_618 ?_
  rw [nI_clamp (n := i + 1) (by omega)]
  refine lv_i2l hx hb dL_law_619 rfl ?_
  refine lv_bipush (v := nI 32) hx hb dL_law_620 (by decide) ?_
  refine lv_lshl hx hb dL_law_622 rfl ?_
  refine lv_aload_n hx hb dL_law_623 rfl (lv_at hl 0 rfl) ?_
  refine lv_iload hx hb dL_law_624 (lv_at hl 4 rfl) ?_
  refine lv_iconst (v := nI 2) hx hb dL_law_626 (by decide) ?_
  refine q_iadd (d := i + 2) hx hb dL_law_627 (by omega) ?_
  refine va_sld hx hb hX hbl hbA hS (vp_in_nI (n := i + 2) (N := L) (by omega) (by omega)) dL_law_628 ?_
  rw [nI_clamp (n := i + 2) (by omega)]
  refine lv_i2l hx hb dL_law_629 rfl ?_
  refine lv_ldc2 (v := 4294967295) hx hb hown (hts (.constantLong RL 80 (4294967295)) (List.mem_of_getElem? (i := 7) rfl)) dL_law_630 ?_
  refine q_cvl (show (4294967295 : Int64) = lN 4294967295 by decide) ?_
  refine lv_land hx hb dL_law_633 ?_
  refine lv_lor hx hb dL_law_634 ?_
  obtain ⟨a, ha, hqa⟩ := q_lN ((((xs (i + 1)).toInt64) <<< ((nI 32).toInt64 &&& 63)) ||| (((xs (i + 2)).toInt64) &&& (lN 4294967295)))
  refine q_cvl hqa ?_
  refine lv_aload_n hx hb dL_law_635 rfl (lv_at hl 0 rfl) ?_
  refine lv_iload hx hb dL_law_636 (lv_at hl 4 rfl) ?_
  refine lv_iconst (v := nI 3) hx hb dL_law_638 (by decide) ?_
  refine q_iadd (d := i + 3) hx hb dL_law_639 (by omega) ?_
  refine va_sld hx hb hX hbl hbA hS (vp_in_nI (n := i + 3) (N := L) (by omega) (by omega)) dL_law_640 ?_
  rw [nI_clamp (n := i + 3) (by omega)]
  refine lv_i2l hx hb dL_law_641 rfl ?_
  refine lv_bipush (v := nI 32) hx hb dL_law_642 (by decide) ?_
  refine lv_lshl hx hb dL_law_644 rfl ?_
  refine lv_aload_n hx hb dL_law_645 rfl (lv_at hl 0 rfl) ?_
  refine lv_iload hx hb dL_law_646 (lv_at hl 4 rfl) ?_
  refine lv_iconst (v := nI 4) hx hb dL_law_648 (by decide) ?_
  refine q_iadd (d := i + 4) hx hb dL_law_649 (by omega) ?_
  refine va_sld hx hb hX hbl hbA hS (vp_in_nI (n := i + 4) (N := L) (by omega) (by omega)) dL_law_650 ?_
  rw [nI_clamp (n := i + 4) (by omega)]
  refine lv_i2l hx hb dL_law_651 rfl ?_
  refine lv_ldc2 (v := 4294967295) hx hb hown (hts (.constantLong RL 80 (4294967295)) (List.mem_of_getElem? (i := 7) rfl)) dL_law_652 ?_
  refine q_cvl (show (4294967295 : Int64) = lN 4294967295 by decide) ?_
  refine lv_land hx hb dL_law_655 ?_
  refine lv_lor hx hb dL_law_656 ?_
  obtain ⟨b8, hb8, hqb8⟩ := q_lN ((((xs (i + 3)).toInt64) <<< ((nI 32).toInt64 &&& 63)) ||| (((xs (i + 4)).toInt64) &&& (lN 4294967295)))
  refine q_cvl hqb8 ?_
  refine lv_aload_n hx hb dL_law_657 rfl (lv_at hl 3 rfl) ?_
  have hF := va_free (wc := [(out, .inl (cO, 1, .inr (.inl fo))), (ce, .inl (cG, 121, .inl fc))]) hD hS hA [28, 3] rfl
  refine va_calli (vx_runSW (As := [.ref xo, .long (lN a), .long (lN b8), .ref out]) (rest := []) ⟨hx, hb, hml, hown, hts⟩ (c_L_price (l := l) (D := D) (xo := xo) (gg := gg) (gr := gr) (ce := ce) (tr := tr) (sh := sh) (ar := ar) (ti := ti) (n1 := n1) (l1 := l1) (s2 := s2) (a2 := a2) (s3 := s3) (a3 := a3) (n2 := n2) (l2 := l2) (cG := cG) (fc := fc) (a := a) (b := b8) (out := out) (cO := cO) (fo := fo) (sz := H.size) (hnd := (q_nds (q_ndl (q_ndsw (q_ndg (l1 := [xo, gg, gr, ce, tr, sh, ar, ti, n1, l1, s2, a2, s3, a3, n2, l2, mo, mw, mct, mp, mnm, m1, m2, mt, mk, mr, ml, mq, out] ++ (rg ea n ++ rg wa n)) (l2 := []) hD hnR hna (by rw [List.map_append, List.map_append, EW_fst, WW_fst]; rfl) rfl))) [28, 3, 0, 1, 2] rfl rfl)) (hst := hst) (ha := by omega) (hb9 := by omega)) (vx_cwSW 4 hts gL_law_L_price rfl rfl rfl (by decide +kernel) ⟨Nat.le_of_ble_eq_true rfl, Nat.le_of_ble_eq_true rfl⟩) ⟨qWx_blind, (qWx_of (hP.sub (ws' := [(xo, .inr (8, [.ref gg, .ref tr, .ref ti, .ref s2, .ref s3, .ref n2])), (gg, .inr (1, [.ref gr])), (gr, .inr (2, [.ref ce]))]) [0, 1, 2] rfl) (hP.sub (ws' := [(out, .inl (cO, 1, .inr (.inl fo))), (ce, .inl (cG, 121, .inl fc))]) [28, 3] rfl) (hK.sub (tys' := [(cO, .long), (cG, .int)]) [17, 0] rfl) hNw (qZ_at hZ hS (fun q h => hF q h)) hXt)⟩ rfl rfl hl.1 rfl (lv_room (Nat.le_of_ble_eq_true rfl)) dL_law_658 ⟨by show _ ≤ 601024; omega, by show _ ≤ 7293034; omega⟩) hS (fun q _ h => hF q h) hF (fun rv8 u_5 t_4 H_2 locs_3 ht hvm hrv8 hB hz1 hk1 hS => ?_)
  obtain ⟨fc2_6, fo8⟩ := u_5
  dsimp only at hrv8 hB
  replace hB : va_P D vwCl [(out, .inl (cO, 1, .inr (.inl fo8))), (ce, .inl (cG, 121, .inl fc2_6))] H_2 := by rw [← ht]; exact hB
  obtain ⟨hP, hD⟩ := q_join (wc := [(out, .inl (cO, 1, .inr (.inl fo))), (ce, .inl (cG, 121, .inl fc))]) (w1 := [(out, .inl (cO, 1, .inr (.inl fo8))), (ce, .inl (cG, 121, .inl fc2_6))]) (ws' := [(xo, .inr (8, [.ref gg, .ref tr, .ref ti, .ref s2, .ref s3, .ref n2])), (gg, .inr (1, [.ref gr])), (gr, .inr (2, [.ref ce])), (ce, .inl (cG, 121, .inl fc2_6)), (tr, .inr (5, [.ref sh])), (sh, .inr (4, [.ref ar, .int (nI n)])), (ar, .inl (cS, 40, .inr (.inr (.inr (.inr f))))), (ti, .inr (6, [.ref n1])), (n1, .inr (3, [.ref l1, .int z1])), (l1, .inl (cJ1, 401, .inr (.inl fN))), (s2, .inr (4, [.ref a2, .int (nI m)])), (a2, .inl (cS2, 40, .inr (.inr (.inr (.inr fk))))), (s3, .inr (4, [.ref a3, .int z3])), (a3, .inl (cS3, 40, .inr (.inr (.inr (.inr fr))))), (n2, .inr (3, [.ref l2, .int z2])), (l2, .inl (cJ2, 56, .inr (.inl fs))), (mo, .inr (9, [.int th, .int (nI n), .ref mw, .ref mct, .ref mp, .ref mnm, .ref m1, .ref m2, .int om, .int tm, .ref mt, .ref mk, .ref mr, .ref ml, .ref mq])), (mw, .inl (k1, 40, .inr (.inl (fun k9 => lN (wd k9))))), (mct, .inl (k2, 40, .inl (fun k9 => nI (ct k9)))), (mp, .inl (k3, 40, .inl (fun k9 => pin (pa k9)))), (mnm, .inl (k4, 40, .inl (fun k9 => nI (nm k9)))), (m1, .inl (k5, 11, .inl u1)), (m2, .inl (k6, 11, .inl u2)), (mt, .inl (k7, 121, .inl u3)), (mk, .inl (k8, 27, .inl (fun k9 => nI (kyf k9)))), (mr, .inl (k9c, 401, .inr (.inl u4))), (ml, .inl (k10, 64, .inr (.inl u5))), (mq, .inl (k11, 64, .inr (.inl u6))), (out, .inl (cO, 1, .inr (.inl fo8)))] ++ (EW ea wa (fun k => (pa k).map ea) nm dp ct ic lf pt n ++ WW wa wd n)) [28, 3] hP hD rfl rfl hk1 hB rfl
  have hR := q_ro hR0 hna hS
  have hF8 := hrv8
  refine lv_istore (lv' := [(5, .int rv8), (0, .ref b), (1, .ref xo), (2, .ref mo), (3, .ref out), (4, .int (nI i))]) hx hb dL_law_661 hl (by decide) rfl (fun ls hl => ?_)
  refine lv_aload_n hx hb dL_law_663 rfl (lv_at hl 3 rfl) ?_
  refine lv_aload_n hx hb dL_law_664 rfl (lv_at hl 1 rfl) ?_
  refine lv_iload hx hb dL_law_665 (lv_at hl 5 rfl) ?_
  refine lv_iconst (v := nI 1) hx hb dL_law_667 (by decide) ?_
  refine q_iadd (d := i + 1) hx hb dL_law_668 (by omega) ?_
  refine va_sld hx hb hX hbl hbA hS (vp_in_nI (n := i + 1) (N := L) (by omega) (by omega)) dL_law_669 ?_
  rw [nI_clamp (n := i + 1) (by omega)]
  refine lv_i2l hx hb dL_law_670 rfl ?_
  refine lv_bipush (v := nI 32) hx hb dL_law_671 (by decide) ?_
  refine lv_lshl hx hb dL_law_673 rfl ?_
  refine lv_aload_n hx hb dL_law_674 rfl (lv_at hl 1 rfl) ?_
  refine lv_iload hx hb dL_law_675 (lv_at hl 5 rfl) ?_
  refine lv_iconst (v := nI 2) hx hb dL_law_677 (by decide) ?_
  refine q_iadd (d := i + 2) hx hb dL_law_678 (by omega) ?_
  refine va_sld hx hb hX hbl hbA hS (vp_in_nI (n := i + 2) (N := L) (by omega) (by omega)) dL_law_679 ?_
  rw [nI_clamp (n := i + 2) (by omega)]
  refine lv_i2l hx hb dL_law_680 rfl ?_
  refine lv_ldc2 (v := 4294967295) hx hb hown (hts (.constantLong RL 80 (4294967295)) (List.mem_of_getElem? (i := 7) rfl)) dL_law_681 ?_
  refine q_cvl (show (4294967295 : Int64) = lN 4294967295 by decide) ?_
  refine lv_land hx hb dL_law_684 ?_
  refine lv_lor hx hb dL_law_685 ?_
  refine q_cvl hqa ?_
  refine lv_aload_n hx hb dL_law_686 rfl (lv_at hl 1 rfl) ?_
  refine lv_iload hx hb dL_law_687 (lv_at hl 5 rfl) ?_
  refine lv_iconst (v := nI 3) hx hb dL_law_689 (by decide) ?_
  refine q_iadd (d := i + 3) hx hb dL_law_690 (by omega) ?_
  refine va_sld hx hb hX hbl hbA hS (vp_in_nI (n := i + 3) (N := L) (by omega) (by omega)) dL_law_691 ?_
  rw [nI_clamp (n := i + 3) (by omega)]
  refine lv_i2l hx hb dL_law_692 rfl ?_
  refine lv_bipush (v := nI 32) hx hb dL_law_693 (by decide) ?_
  refine lv_lshl hx hb dL_law_695 rfl ?_
  refine lv_aload_n hx hb dL_law_696 rfl (lv_at hl 1 rfl) ?_
  refine lv_iload hx hb dL_law_697 (lv_at hl 5 rfl) ?_
  refine lv_iconst (v := nI 4) hx hb dL_law_699 (by decide) ?_
  refine q_iadd (d := i + 4) hx hb dL_law_700 (by omega) ?_
  refine va_sld hx hb hX hbl hbA hS (vp_in_nI (n := i + 4) (N := L) (by omega) (by omega)) dL_law_701 ?_
  rw [nI_clamp (n := i + 4) (by omega)]
  refine lv_i2l hx hb dL_law_702 rfl ?_
  refine lv_ldc2 (v := 4294967295) hx hb hown (hts (.constantLong RL 80 (4294967295)) (List.mem_of_getElem? (i := 7) rfl)) dL_law_703 ?_
  refine q_cvl (show (4294967295 : Int64) = lN 4294967295 by decide) ?_
  refine lv_land hx hb dL_law_706 ?_
  refine lv_lor hx hb dL_law_707 ?_
  refine q_cvl hqb8 ?_
  have hF := va_free (wc := [(mo, .inr (9, [.int th, .int (nI n), .ref mw, .ref mct, .ref mp, .ref mnm, .ref m1, .ref m2, .int om, .int tm, .ref mt, .ref mk, .ref mr, .ref ml, .ref mq])), (m1, .inl (k5, 11, .inl u1)), (m2, .inl (k6, 11, .inl u2)), (mt, .inl (k7, 121, .inl u3))]) hD hS hA [16, 21, 22, 23] rfl
  refine va_calli (va_runV (As := [.long (lN a), .long (lN b8)]) (rest := []) ⟨hx, hb, hml, hown, hts⟩ (c_X10_price (l := l) (D := D) (mo := mo) (mw := mw) (mct := mct) (mp := mp) (mnm := mnm) (m1 := m1) (m2 := m2) (mt := mt) (mk := mk) (mr := mr) (ml := ml) (mq := mq) (k5 := k5) (k6 := k6) (k7 := k7) (k8 := k8) (th := th) (n := n) (om := om) (tm := tm) (f1 := u1) (f2 := u2) (ft := u3) (a := a) (b := b8) (sz := H_2.size) (hnd := (q_nds (q_ndl (q_ndsw (q_ndg (l1 := [xo, gg, gr, ce, tr, sh, ar, ti, n1, l1, s2, a2, s3, a3, n2, l2, mo, mw, mct, mp, mnm, m1, m2, mt, mk, mr, ml, mq, out] ++ (rg ea n ++ rg wa n)) (l2 := []) hD hnR hna (by rw [List.map_append, List.map_append, EW_fst, WW_fst]; rfl) rfl))) [16, 21, 22, 23, 24] rfl rfl)) (ha := by omega) (hb9 := by omega)) (cwV 2 hts gL_law_X10_price rfl rfl rfl (by decide +kernel) ⟨Nat.le_of_ble_eq_true rfl, Nat.le_of_ble_eq_true rfl⟩) ⟨qW_blind, (va_recv hK hP (ci := 9) (q0 := 16) rfl rfl), (qW_of (hP.sub (ws' := [(mk, .inl (k8, 27, .inl (fun k9 => nI (kyf k9))))]) [24] rfl) (hP.sub (ws' := [(mo, .inr (9, [.int th, .int (nI n), .ref mw, .ref mct, .ref mp, .ref mnm, .ref m1, .ref m2, .int om, .int tm, .ref mt, .ref mk, .ref mr, .ref ml, .ref mq])), (m1, .inl (k5, 11, .inl u1)), (m2, .inl (k6, 11, .inl u2)), (mt, .inl (k7, 121, .inl u3))]) [16, 21, 22, 23] rfl) (hK.sub (tys' := [(k5, .int), (k6, .int), (k7, .int), (k8, .int)]) [10, 11, 12, 13] rfl) hNw)⟩ rfl rfl hl.1 rfl (lv_room (Nat.le_of_ble_eq_true rfl)) dL_law_708 ⟨by show _ ≤ 601024; omega, by show _ ≤ 7293034; omega⟩) hS (fun q _ h => hF q h) hF (fun rb8 u_11 t_10 H_8 locs_9 ht hvm hrb8 hB hz1 hk1 hS => ?_)
  obtain ⟨t8, o2_12, q2_13, g1_14, g2_15, g3_16⟩ := u_11
  dsimp only at hrb8 hB
  replace hB : va_P D vwCl [(mo, .inr (9, [.int t8, .int (nI n), .ref mw, .ref mct, .ref mp, .ref mnm, .ref m1, .ref m2, .int o2_12, .int q2_13, .ref mt, .ref mk, .ref mr, .ref ml, .ref mq])), (m1, .inl (k5, 11, .inl g1_14)), (m2, .inl (k6, 11, .inl g2_15)), (mt, .inl (k7, 121, .inl g3_16))] H_8 := by rw [← ht]; exact hB
  obtain ⟨hP, hD⟩ := q_join (wc := [(mo, .inr (9, [.int th, .int (nI n), .ref mw, .ref mct, .ref mp, .ref mnm, .ref m1, .ref m2, .int om, .int tm, .ref mt, .ref mk, .ref mr, .ref ml, .ref mq])), (m1, .inl (k5, 11, .inl u1)), (m2, .inl (k6, 11, .inl u2)), (mt, .inl (k7, 121, .inl u3))]) (w1 := [(mo, .inr (9, [.int t8, .int (nI n), .ref mw, .ref mct, .ref mp, .ref mnm, .ref m1, .ref m2, .int o2_12, .int q2_13, .ref mt, .ref mk, .ref mr, .ref ml, .ref mq])), (m1, .inl (k5, 11, .inl g1_14)), (m2, .inl (k6, 11, .inl g2_15)), (mt, .inl (k7, 121, .inl g3_16))]) (ws' := [(xo, .inr (8, [.ref gg, .ref tr, .ref ti, .ref s2, .ref s3, .ref n2])), (gg, .inr (1, [.ref gr])), (gr, .inr (2, [.ref ce])), (ce, .inl (cG, 121, .inl fc2_6)), (tr, .inr (5, [.ref sh])), (sh, .inr (4, [.ref ar, .int (nI n)])), (ar, .inl (cS, 40, .inr (.inr (.inr (.inr f))))), (ti, .inr (6, [.ref n1])), (n1, .inr (3, [.ref l1, .int z1])), (l1, .inl (cJ1, 401, .inr (.inl fN))), (s2, .inr (4, [.ref a2, .int (nI m)])), (a2, .inl (cS2, 40, .inr (.inr (.inr (.inr fk))))), (s3, .inr (4, [.ref a3, .int z3])), (a3, .inl (cS3, 40, .inr (.inr (.inr (.inr fr))))), (n2, .inr (3, [.ref l2, .int z2])), (l2, .inl (cJ2, 56, .inr (.inl fs))), (mo, .inr (9, [.int t8, .int (nI n), .ref mw, .ref mct, .ref mp, .ref mnm, .ref m1, .ref m2, .int o2_12, .int q2_13, .ref mt, .ref mk, .ref mr, .ref ml, .ref mq])), (mw, .inl (k1, 40, .inr (.inl (fun k9 => lN (wd k9))))), (mct, .inl (k2, 40, .inl (fun k9 => nI (ct k9)))), (mp, .inl (k3, 40, .inl (fun k9 => pin (pa k9)))), (mnm, .inl (k4, 40, .inl (fun k9 => nI (nm k9)))), (m1, .inl (k5, 11, .inl g1_14)), (m2, .inl (k6, 11, .inl g2_15)), (mt, .inl (k7, 121, .inl g3_16)), (mk, .inl (k8, 27, .inl (fun k9 => nI (kyf k9)))), (mr, .inl (k9c, 401, .inr (.inl u4))), (ml, .inl (k10, 64, .inr (.inl u5))), (mq, .inl (k11, 64, .inr (.inl u6))), (out, .inl (cO, 1, .inr (.inl fo8)))] ++ (EW ea wa (fun k => (pa k).map ea) nm dp ct ic lf pt n ++ WW wa wd n)) [16, 21, 22, 23] hP hD rfl rfl hk1 hB rfl
  have hR := q_ro hR0 hna hS
  obtain ⟨g80, g81⟩ := hrb8
  have hE : t8 = rv8 ∧ (rv8 = 0 → fo8 0 = (rb8).toInt64) := q_hv1 hF8 g80 (fun h9 => by rw [g81 h9])
  refine lv_istore (lv' := [(6, .int rb8), (5, .int rv8), (0, .ref b), (1, .ref xo), (2, .ref mo), (3, .ref out), (4, .int (nI i))]) hx hb dL_law_711 hl (by decide) rfl (fun ls hl => ?_)
  refine lv_aload_n hx hb dL_law_713 rfl (lv_at hl 4 rfl) ?_
  refine vp_callSi (W.runV (As := []) (rest := []) ⟨hx, hb, hml, hown, hts⟩ (c_X10_thrown (l := l) (D := D) (mo := mo) (mw := mw) (mct := mct) (mp := mp) (mnm := mnm) (m1 := m1) (m2 := m2) (mt := mt) (mk := mk) (mr := mr) (ml := ml) (mq := mq) (th := t8) (n := n) (om := o2_12) (tm := q2_13) ) (cwV 0 hts gL_law_X10_thrown rfl rfl rfl (by decide +kernel) ⟨Nat.le_of_ble_eq_true rfl, Nat.le_of_ble_eq_true rfl⟩) ⟨qP_blind, (va_recv hK hP (ci := 9) (q0 := 16) rfl rfl), (qP_of (hP.sub (ws' := [(mo, .inr (9, [.int t8, .int (nI n), .ref mw, .ref mct, .ref mp, .ref mnm, .ref m1, .ref m2, .int o2_12, .int q2_13, .ref mt, .ref mk, .ref mr, .ref ml, .ref mq]))]) [16] rfl) (hK.sub (tys' := []) [] rfl) hNw)⟩ rfl rfl hl.1 rfl (lv_room (Nat.le_of_ble_eq_true rfl)) dL_law_714 ⟨by show _ ≤ 601024; omega, by show _ ≤ 7293034; omega⟩) (fun r_17 hr_17 => ?_)
  have hr_17 := hr_17.symm
  subst hr_17
  refine lv_iload hx hb dL_law_717 (lv_at hl 1 rfl) ?_
  refine lv_icmp_eq (tgt := 724) hx hb dL_law_719 (by decide) (fun c_719 => ?_) (fun c_719 => False.elim (by exact c_719 hE.1))
  refine lv_iload hx hb dL_law_724 (lv_at hl 1 rfl) ?_
  refine lv_if_ne (tgt := 741) hx hb dL_law_726 (by decide) (fun c_726 => ?_) (fun c_726 => ?_)
  · skip
    refine lv_goto (tgt := 1919) hx hb dL_law_741 (by decide) ?_
    exact K _ _ _ _ _ ⟨n, m, wd, ct, pa, nm, dp, ki, ea, wa, ic, lf, pt, f, fk, fc2_6, z1, fN, z3, fr, z2, fs, t8, o2_12, q2_13, g1_14, g2_15, g3_16, u4, u5, u6, fo8, hI, hfe, hfk, hP, hD, hS⟩ (lv_sub hl [2, 3, 4, 5, 6] rfl) (by omega) (by omega)
  · skip
    refine lv_aload_n hx hb dL_law_729 rfl (lv_at hl 5 rfl) ?_
    refine lv_iconst (v := nI 0) hx hb dL_law_730 (by decide) ?_
    refine va_lald (D := D) hx hb hK hP 28 17 rfl rfl (vp_in_nI (n := 0) (N := 1) (by omega) (by decide)) dL_law_731 ?_
    rw [nI_clamp (n := 0) (by omega)]
    refine lv_iload hx hb dL_law_732 (lv_at hl 0 rfl) ?_
    refine lv_i2l hx hb dL_law_734 rfl ?_
    refine W.lcmp hx hb dL_law_735 ?_
    refine q_lr_eq (tgt := 741) hx hb dL_law_736 (by decide) (fun c_736 => ?_) (fun c_736 => False.elim (by exact c_736 (hE.2 c_726)))
    refine lv_goto (tgt := 1919) hx hb dL_law_741 (by decide) ?_
    exact K _ _ _ _ _ ⟨n, m, wd, ct, pa, nm, dp, ki, ea, wa, ic, lf, pt, f, fk, fc2_6, z1, fN, z3, fr, z2, fs, t8, o2_12, q2_13, g1_14, g2_15, g3_16, u4, u5, u6, fo8, hI, hfe, hfk, hP, hD, hS⟩ (lv_sub hl [2, 3, 4, 5, 6] rfl) (by omega) (by omega)

set_option maxHeartbeats 4000000 in
set_option maxRecDepth 100000 in
/-- areNeighbours -/
theorem lw_c744 {p : Program} {l : Launch} {e : Env} {s : State} {mi9 : MethodId} {belowM : List Frame} {methM : Method} {cM : Code} {Q : State → Prop} {D : va_G} {A : Nat → Prop} {b L i : Nat} {xs : Nat → Int32} {xo gg gr ce tr sh ar ti n1 l1 s2 a2 s3 a3 n2 l2 mo mw mct mp mnm m1 m2 mt mk mr ml mq out : Nat} {cS cS2 cG cJ1 cS3 cJ2 k1 k2 k3 k4 k5 k6 k7 k8 k9c k10 k11 cO : ClassId} {H : Heap} {locs : List Loc} {ls : Array Slot} {cells slots : Nat} (hE : LWE p l s mi9 cM D A b L xs [(cG, .int), (cS, .object "FuzzyFens$Entry"), (cJ1, .long), (cS2, .object "FuzzyFens$Entry"), (cS3, .object "FuzzyFens$Entry"), (cJ2, .long), (k1, .long), (k2, .int), (k3, .int), (k4, .int), (k5, .int), (k6, .int), (k7, .int), (k8, .int), (k9c, .long), (k10, .long), (k11, .long), (cO, .long)]) (hi : i + 5 ≤ L) (hW : LWI D s A xo gg gr ce tr sh ar ti n1 l1 s2 a2 s3 a3 n2 l2 mo mw mct mp mnm m1 m2 mt mk mr ml mq out cS cS2 cG cJ1 cS3 cJ2 k1 k2 k3 k4 k5 k6 k7 k8 k9c k10 k11 cO H locs) (hl : lv_has ls 8 [(0, .ref b), (1, .ref xo), (2, .ref mo), (3, .ref out), (4, .int (nI i))]) (hc9 : cells + 8 ≤ 601024) (hs9 : slots + 64 ≤ 7293034) (K : LWK p l e s mi9 belowM methM cM Q D A b i xo gg gr ce tr sh ar ti n1 l1 s2 a2 s3 a3 n2 l2 mo mw mct mp mnm m1 m2 mt mk mr ml mq out cS cS2 cG cJ1 cS3 cJ2 k1 k2 k3 k4 k5 k6 k7 k8 k9c k10 k11 cO cells slots) : W p l e room_1 s mi9 #[Value.ref b] belowM methM cM H locs cells slots Q (F0 mi9 744 ls []) := by
  obtain ⟨hx, hb, hml, hown, hts, hX, hbl, hbA, hA, hK, hNw, hZ, hXt, hst, hL⟩ := hE
  obtain ⟨n, m, wd, ct, pa, nm, dp, ki, ea, wa, ic, lf, pt, f, fk, fc, z1, fN, z3, fr, z2, fs, th, om, tm, u1, u2, u3, u4, u5, u6, fo, hI, hfe, hfk, hP, hD, hS⟩ := hW
  have hI0 := hI
  obtain ⟨hn40, hg, hwi, hct, hpn, hun, hnm, hnz, hdp, hKN, hSR⟩ := hI0
  have hmn := kn_le hKN hSR
  have hm : m ≤ 40 := Nat.le_trans hmn hn40
  have hki : ∀ j, j < m → ki j < n := fun j h => (hKN.1 j h).1
  have hcb : ∀ k, k < n → ct k < 2 ^ 31 := fun k h => by have := hct k h; omega
  have hnb : ∀ k, k < n → nm k < 2 ^ 31 := fun k h => by have := hnm k h; omega
  have hmz : ∀ i, i < n → ct i = 0 → m < n := fun i h h0 => kn_lt hKN hSR h h0
  have hkinj := srt_inj hSR
  have hkn := hKN.2
  have heai := q_poolinj hD
  have hR0 : va_P D vwCl [] s.heap := q_Pof (fun _ h => absurd h List.not_mem_nil)
  have hR := hR0
  have hna : ∀ q ∈ ([] : va_W), ¬ A q.1 := fun q h => absurd h List.not_mem_nil
  have hnR : (([] : va_W).map (·.1)).Nodup := List.nodup_nil
  refine lv_aload_n hx hb dL_law_744 rfl (lv_at hl 1 rfl) ?_
  refine lv_aload_n hx hb dL_law_745 rfl (lv_at hl 0 rfl) ?_
  refine lv_iload hx hb dL_law_746 (lv_at hl 4 rfl) ?_
  refine lv_iconst (v := nI 1) hx hb dL_law_748 (by decide) ?_
  refine q_iadd (d := i + 1) hx hb dL_law_749 (by omega) ?_
  refine va_sld hx hb hX hbl hbA hS (vp_in_nI (n := i + 1) (N := L) (by omega) (by omega)) dL_law_750 ?_
  rw [nI_clamp (n := i + 1) (by omega)]
  refine lv_aload_n hx hb dL_law_751 rfl (lv_at hl 0 rfl) ?_
  refine lv_iload hx hb dL_law_752 (lv_at hl 4 rfl) ?_
  refine lv_iconst (v := nI 2) hx hb dL_law_754 (by decide) ?_
  refine q_iadd (d := i + 2) hx hb dL_law_755 (by omega) ?_
  refine va_sld hx hb hX hbl hbA hS (vp_in_nI (n := i + 2) (N := L) (by omega) (by omega)) dL_law_756 ?_
  rw [nI_clamp (n := i + 2) (by omega)]
  refine lv_aload_n hx hb dL_law_757 rfl (lv_at hl 3 rfl) ?_
  have hF := va_free (wc := [(out, .inl (cO, 1, .inr (.inl fo)))]) hD hS hA [28] rfl
  refine va_calli (vx_runSW (As := [.ref xo, .int (xs (i + 1)), .int (xs (i + 2)), .ref out]) (rest := []) ⟨hx, hb, hml, hown, hts⟩ (c_L_areNeighbours (l := l) (D := D) (xo := xo) (gg := gg) (gr := gr) (ce := ce) (tr := tr) (sh := sh) (ar := ar) (ti := ti) (n1 := n1) (l1 := l1) (s2 := s2) (a2 := a2) (s3 := s3) (a3 := a3) (n2 := n2) (l2 := l2) (x9 := xs (i + 1)) (y9 := xs (i + 2)) (out := out) (cO := cO) (fo := fo) (sz := H.size) (hnd := (q_nds (q_ndl (q_ndsw (q_ndg (l1 := [xo, gg, gr, ce, tr, sh, ar, ti, n1, l1, s2, a2, s3, a3, n2, l2, mo, mw, mct, mp, mnm, m1, m2, mt, mk, mr, ml, mq, out] ++ (rg ea n ++ rg wa n)) (l2 := []) hD hnR hna (by rw [List.map_append, List.map_append, EW_fst, WW_fst]; rfl) rfl))) [28, 0] rfl rfl)) (hst := hst) ) (vx_cwSW 4 hts gL_law_L_areNeighbours rfl rfl rfl (by decide +kernel) ⟨Nat.le_of_ble_eq_true rfl, Nat.le_of_ble_eq_true rfl⟩) ⟨qWx_blind, (qWx_of (hP.sub (ws' := [(xo, .inr (8, [.ref gg, .ref tr, .ref ti, .ref s2, .ref s3, .ref n2]))]) [0] rfl) (hP.sub (ws' := [(out, .inl (cO, 1, .inr (.inl fo)))]) [28] rfl) (hK.sub (tys' := [(cO, .long)]) [17] rfl) hNw (qZ_at hZ hS (fun q h => hF q h)) hXt)⟩ rfl rfl hl.1 rfl (lv_room (Nat.le_of_ble_eq_true rfl)) dL_law_758 ⟨by show _ ≤ 601024; omega, by show _ ≤ 7293034; omega⟩) hS (fun q _ h => hF q h) hF (fun rv8 u_5 t_4 H_2 locs_3 ht hvm hrv8 hB hz1 hk1 hS => ?_)
  obtain ⟨fo8, rfl⟩ : ∃ z, z = u_5 := ⟨_, rfl⟩
  replace hB : va_P D vwCl [(out, .inl (cO, 1, .inr (.inl fo8)))] H_2 := by rw [← ht]; exact hB
  obtain ⟨hP, hD⟩ := q_join (wc := [(out, .inl (cO, 1, .inr (.inl fo)))]) (w1 := [(out, .inl (cO, 1, .inr (.inl fo8)))]) (ws' := [(xo, .inr (8, [.ref gg, .ref tr, .ref ti, .ref s2, .ref s3, .ref n2])), (gg, .inr (1, [.ref gr])), (gr, .inr (2, [.ref ce])), (ce, .inl (cG, 121, .inl fc)), (tr, .inr (5, [.ref sh])), (sh, .inr (4, [.ref ar, .int (nI n)])), (ar, .inl (cS, 40, .inr (.inr (.inr (.inr f))))), (ti, .inr (6, [.ref n1])), (n1, .inr (3, [.ref l1, .int z1])), (l1, .inl (cJ1, 401, .inr (.inl fN))), (s2, .inr (4, [.ref a2, .int (nI m)])), (a2, .inl (cS2, 40, .inr (.inr (.inr (.inr fk))))), (s3, .inr (4, [.ref a3, .int z3])), (a3, .inl (cS3, 40, .inr (.inr (.inr (.inr fr))))), (n2, .inr (3, [.ref l2, .int z2])), (l2, .inl (cJ2, 56, .inr (.inl fs))), (mo, .inr (9, [.int th, .int (nI n), .ref mw, .ref mct, .ref mp, .ref mnm, .ref m1, .ref m2, .int om, .int tm, .ref mt, .ref mk, .ref mr, .ref ml, .ref mq])), (mw, .inl (k1, 40, .inr (.inl (fun k9 => lN (wd k9))))), (mct, .inl (k2, 40, .inl (fun k9 => nI (ct k9)))), (mp, .inl (k3, 40, .inl (fun k9 => pin (pa k9)))), (mnm, .inl (k4, 40, .inl (fun k9 => nI (nm k9)))), (m1, .inl (k5, 11, .inl u1)), (m2, .inl (k6, 11, .inl u2)), (mt, .inl (k7, 121, .inl u3)), (mk, .inl (k8, 27, .inl (fun k9 => nI (kyf k9)))), (mr, .inl (k9c, 401, .inr (.inl u4))), (ml, .inl (k10, 64, .inr (.inl u5))), (mq, .inl (k11, 64, .inr (.inl u6))), (out, .inl (cO, 1, .inr (.inl fo8)))] ++ (EW ea wa (fun k => (pa k).map ea) nm dp ct ic lf pt n ++ WW wa wd n)) [28] hP hD rfl rfl hk1 hB rfl
  have hR := q_ro hR0 hna hS
  have hF8 := hrv8
  refine lv_istore (lv' := [(5, .int rv8), (0, .ref b), (1, .ref xo), (2, .ref mo), (3, .ref out), (4, .int (nI i))]) hx hb dL_law_761 hl (by decide) rfl (fun ls hl => ?_)
  refine lv_aload_n hx hb dL_law_763 rfl (lv_at hl 3 rfl) ?_
  refine lv_aload_n hx hb dL_law_764 rfl (lv_at hl 1 rfl) ?_
  refine lv_iload hx hb dL_law_765 (lv_at hl 5 rfl) ?_
  refine lv_iconst (v := nI 1) hx hb dL_law_767 (by decide) ?_
  refine q_iadd (d := i + 1) hx hb dL_law_768 (by omega) ?_
  refine va_sld hx hb hX hbl hbA hS (vp_in_nI (n := i + 1) (N := L) (by omega) (by omega)) dL_law_769 ?_
  rw [nI_clamp (n := i + 1) (by omega)]
  refine lv_aload_n hx hb dL_law_770 rfl (lv_at hl 1 rfl) ?_
  refine lv_iload hx hb dL_law_771 (lv_at hl 5 rfl) ?_
  refine lv_iconst (v := nI 2) hx hb dL_law_773 (by decide) ?_
  refine q_iadd (d := i + 2) hx hb dL_law_774 (by omega) ?_
  refine va_sld hx hb hX hbl hbA hS (vp_in_nI (n := i + 2) (N := L) (by omega) (by omega)) dL_law_775 ?_
  rw [nI_clamp (n := i + 2) (by omega)]
  have hF := va_free (wc := [(mo, .inr (9, [.int th, .int (nI n), .ref mw, .ref mct, .ref mp, .ref mnm, .ref m1, .ref m2, .int om, .int tm, .ref mt, .ref mk, .ref mr, .ref ml, .ref mq]))]) hD hS hA [16] rfl
  refine va_calli (va_runV (As := [.int (xs (i + 1)), .int (xs (i + 2))]) (rest := []) ⟨hx, hb, hml, hown, hts⟩ (c_X10_areNeighbours (l := l) (D := D) (mo := mo) (mw := mw) (mct := mct) (mp := mp) (mnm := mnm) (m1 := m1) (m2 := m2) (mt := mt) (mk := mk) (mr := mr) (ml := ml) (mq := mq) (k8 := k8) (th := th) (n := n) (om := om) (tm := tm) (x9 := xs (i + 1)) (y9 := xs (i + 2)) (sz := H_2.size) (hnd := (q_nds (q_ndl (q_ndsw (q_ndg (l1 := [xo, gg, gr, ce, tr, sh, ar, ti, n1, l1, s2, a2, s3, a3, n2, l2, mo, mw, mct, mp, mnm, m1, m2, mt, mk, mr, ml, mq, out] ++ (rg ea n ++ rg wa n)) (l2 := []) hD hnR hna (by rw [List.map_append, List.map_append, EW_fst, WW_fst]; rfl) rfl))) [16, 24] rfl rfl)) ) (cwV 2 hts gL_law_X10_areNeighbours rfl rfl rfl (by decide +kernel) ⟨Nat.le_of_ble_eq_true rfl, Nat.le_of_ble_eq_true rfl⟩) ⟨qW_blind, (va_recv hK hP (ci := 9) (q0 := 16) rfl rfl), (qW_of (hP.sub (ws' := [(mk, .inl (k8, 27, .inl (fun k9 => nI (kyf k9))))]) [24] rfl) (hP.sub (ws' := [(mo, .inr (9, [.int th, .int (nI n), .ref mw, .ref mct, .ref mp, .ref mnm, .ref m1, .ref m2, .int om, .int tm, .ref mt, .ref mk, .ref mr, .ref ml, .ref mq]))]) [16] rfl) (hK.sub (tys' := [(k8, .int)]) [13] rfl) hNw)⟩ rfl rfl hl.1 rfl (lv_room (Nat.le_of_ble_eq_true rfl)) dL_law_776 ⟨by show _ ≤ 601024; omega, by show _ ≤ 7293034; omega⟩) hS (fun q _ h => hF q h) hF (fun rb8 u_10 t_9 H_7 locs_8 ht hvm hrb8 hB hz1 hk1 hS => ?_)
  obtain ⟨t8, rfl⟩ : ∃ z, z = u_10 := ⟨_, rfl⟩
  replace hB : va_P D vwCl [(mo, .inr (9, [.int t8, .int (nI n), .ref mw, .ref mct, .ref mp, .ref mnm, .ref m1, .ref m2, .int om, .int tm, .ref mt, .ref mk, .ref mr, .ref ml, .ref mq]))] H_7 := by rw [← ht]; exact hB
  obtain ⟨hP, hD⟩ := q_join (wc := [(mo, .inr (9, [.int th, .int (nI n), .ref mw, .ref mct, .ref mp, .ref mnm, .ref m1, .ref m2, .int om, .int tm, .ref mt, .ref mk, .ref mr, .ref ml, .ref mq]))]) (w1 := [(mo, .inr (9, [.int t8, .int (nI n), .ref mw, .ref mct, .ref mp, .ref mnm, .ref m1, .ref m2, .int om, .int tm, .ref mt, .ref mk, .ref mr, .ref ml, .ref mq]))]) (ws' := [(xo, .inr (8, [.ref gg, .ref tr, .ref ti, .ref s2, .ref s3, .ref n2])), (gg, .inr (1, [.ref gr])), (gr, .inr (2, [.ref ce])), (ce, .inl (cG, 121, .inl fc)), (tr, .inr (5, [.ref sh])), (sh, .inr (4, [.ref ar, .int (nI n)])), (ar, .inl (cS, 40, .inr (.inr (.inr (.inr f))))), (ti, .inr (6, [.ref n1])), (n1, .inr (3, [.ref l1, .int z1])), (l1, .inl (cJ1, 401, .inr (.inl fN))), (s2, .inr (4, [.ref a2, .int (nI m)])), (a2, .inl (cS2, 40, .inr (.inr (.inr (.inr fk))))), (s3, .inr (4, [.ref a3, .int z3])), (a3, .inl (cS3, 40, .inr (.inr (.inr (.inr fr))))), (n2, .inr (3, [.ref l2, .int z2])), (l2, .inl (cJ2, 56, .inr (.inl fs))), (mo, .inr (9, [.int t8, .int (nI n), .ref mw, .ref mct, .ref mp, .ref mnm, .ref m1, .ref m2, .int om, .int tm, .ref mt, .ref mk, .ref mr, .ref ml, .ref mq])), (mw, .inl (k1, 40, .inr (.inl (fun k9 => lN (wd k9))))), (mct, .inl (k2, 40, .inl (fun k9 => nI (ct k9)))), (mp, .inl (k3, 40, .inl (fun k9 => pin (pa k9)))), (mnm, .inl (k4, 40, .inl (fun k9 => nI (nm k9)))), (m1, .inl (k5, 11, .inl u1)), (m2, .inl (k6, 11, .inl u2)), (mt, .inl (k7, 121, .inl u3)), (mk, .inl (k8, 27, .inl (fun k9 => nI (kyf k9)))), (mr, .inl (k9c, 401, .inr (.inl u4))), (ml, .inl (k10, 64, .inr (.inl u5))), (mq, .inl (k11, 64, .inr (.inl u6))), (out, .inl (cO, 1, .inr (.inl fo8)))] ++ (EW ea wa (fun k => (pa k).map ea) nm dp ct ic lf pt n ++ WW wa wd n)) [16] hP hD rfl rfl hk1 hB rfl
  have hR := q_ro hR0 hna hS
  obtain ⟨g80, g81⟩ := hrb8
  have hE := q_hvb hF8 g80 g81
  refine lv_istore (lv' := [(6, .int rb8), (5, .int rv8), (0, .ref b), (1, .ref xo), (2, .ref mo), (3, .ref out), (4, .int (nI i))]) hx hb dL_law_779 hl (by decide) rfl (fun ls hl => ?_)
  refine lv_aload_n hx hb dL_law_781 rfl (lv_at hl 4 rfl) ?_
  refine vp_callSi (W.runV (As := []) (rest := []) ⟨hx, hb, hml, hown, hts⟩ (c_X10_thrown (l := l) (D := D) (mo := mo) (mw := mw) (mct := mct) (mp := mp) (mnm := mnm) (m1 := m1) (m2 := m2) (mt := mt) (mk := mk) (mr := mr) (ml := ml) (mq := mq) (th := t8) (n := n) (om := om) (tm := tm) ) (cwV 0 hts gL_law_X10_thrown rfl rfl rfl (by decide +kernel) ⟨Nat.le_of_ble_eq_true rfl, Nat.le_of_ble_eq_true rfl⟩) ⟨qP_blind, (va_recv hK hP (ci := 9) (q0 := 16) rfl rfl), (qP_of (hP.sub (ws' := [(mo, .inr (9, [.int t8, .int (nI n), .ref mw, .ref mct, .ref mp, .ref mnm, .ref m1, .ref m2, .int om, .int tm, .ref mt, .ref mk, .ref mr, .ref ml, .ref mq]))]) [16] rfl) (hK.sub (tys' := []) [] rfl) hNw)⟩ rfl rfl hl.1 rfl (lv_room (Nat.le_of_ble_eq_true rfl)) dL_law_782 ⟨by show _ ≤ 601024; omega, by show _ ≤ 7293034; omega⟩) (fun r_11 hr_11 => ?_)
  have hr_11 := hr_11.symm
  subst hr_11
  refine lv_iload hx hb dL_law_785 (lv_at hl 1 rfl) ?_
  refine lv_icmp_eq (tgt := 792) hx hb dL_law_787 (by decide) (fun c_787 => ?_) (fun c_787 => False.elim (by exact c_787 hE.1))
  refine lv_iload hx hb dL_law_792 (lv_at hl 1 rfl) ?_
  refine lv_if_ne (tgt := 816) hx hb dL_law_794 (by decide) (fun c_794 => ?_) (fun c_794 => ?_)
  · skip
    refine lv_goto (tgt := 1919) hx hb dL_law_816 (by decide) ?_
    exact K _ _ _ _ _ ⟨n, m, wd, ct, pa, nm, dp, ki, ea, wa, ic, lf, pt, f, fk, fc, z1, fN, z3, fr, z2, fs, t8, om, tm, u1, u2, u3, u4, u5, u6, fo8, hI, hfe, hfk, hP, hD, hS⟩ (lv_sub hl [2, 3, 4, 5, 6] rfl) (by omega) (by omega)
  · skip
    refine lv_aload_n hx hb dL_law_797 rfl (lv_at hl 5 rfl) ?_
    refine lv_iconst (v := nI 0) hx hb dL_law_798 (by decide) ?_
    refine va_lald (D := D) hx hb hK hP 28 17 rfl rfl (vp_in_nI (n := 0) (N := 1) (by omega) (by decide)) dL_law_799 ?_
    rw [nI_clamp (n := 0) (by omega)]
    refine lv_iload hx hb dL_law_800 (lv_at hl 0 rfl) ?_
    refine lv_if_eq (tgt := 809) hx hb dL_law_802 (by decide) (fun c_802 => ?_) (fun c_802 => ?_)
    · skip
      refine lv_lconst (v := lN 0) hx hb dL_law_809 (by decide) ?_
      refine W.lcmp hx hb dL_law_810 ?_
      refine q_lr_eq (tgt := 816) hx hb dL_law_811 (by decide) (fun c_811 => ?_) (fun c_811 => False.elim (by first | exact c_811 ((hE.2 c_794).1 c_802) | exact c_811 ((hE.2 c_794).2 c_802)))
      refine lv_goto (tgt := 1919) hx hb dL_law_816 (by decide) ?_
      exact K _ _ _ _ _ ⟨n, m, wd, ct, pa, nm, dp, ki, ea, wa, ic, lf, pt, f, fk, fc, z1, fN, z3, fr, z2, fs, t8, om, tm, u1, u2, u3, u4, u5, u6, fo8, hI, hfe, hfk, hP, hD, hS⟩ (lv_sub hl [2, 3, 4, 5, 6] rfl) (by omega) (by omega)
    · skip
      refine lv_lconst (v := lN 1) hx hb dL_law_805 (by decide) ?_
      refine lv_goto (tgt := 810) hx hb dL_law_806 (by decide) ?_
      refine W.lcmp hx hb dL_law_810 ?_
      refine q_lr_eq (tgt := 816) hx hb dL_law_811 (by decide) (fun c_811 => ?_) (fun c_811 => False.elim (by first | exact c_811 ((hE.2 c_794).1 c_802) | exact c_811 ((hE.2 c_794).2 c_802)))
      refine lv_goto (tgt := 1919) hx hb dL_law_816 (by decide) ?_
      exact K _ _ _ _ _ ⟨n, m, wd, ct, pa, nm, dp, ki, ea, wa, ic, lf, pt, f, fk, fc, z1, fN, z3, fr, z2, fs, t8, om, tm, u1, u2, u3, u4, u5, u6, fo8, hI, hfe, hfk, hP, hD, hS⟩ (lv_sub hl [2, 3, 4, 5, 6] rfl) (by omega) (by omega)

set_option maxHeartbeats 4000000 in
set_option maxRecDepth 100000 in
/-- corrections -/
theorem lw_c819 {p : Program} {l : Launch} {e : Env} {s : State} {mi9 : MethodId} {belowM : List Frame} {methM : Method} {cM : Code} {Q : State → Prop} {D : va_G} {A : Nat → Prop} {b L i : Nat} {xs : Nat → Int32} {xo gg gr ce tr sh ar ti n1 l1 s2 a2 s3 a3 n2 l2 mo mw mct mp mnm m1 m2 mt mk mr ml mq out : Nat} {cS cS2 cG cJ1 cS3 cJ2 k1 k2 k3 k4 k5 k6 k7 k8 k9c k10 k11 cO : ClassId} {H : Heap} {locs : List Loc} {ls : Array Slot} {cells slots : Nat} (hE : LWE p l s mi9 cM D A b L xs [(cG, .int), (cS, .object "FuzzyFens$Entry"), (cJ1, .long), (cS2, .object "FuzzyFens$Entry"), (cS3, .object "FuzzyFens$Entry"), (cJ2, .long), (k1, .long), (k2, .int), (k3, .int), (k4, .int), (k5, .int), (k6, .int), (k7, .int), (k8, .int), (k9c, .long), (k10, .long), (k11, .long), (cO, .long)]) (hi : i + 5 ≤ L) (hW : LWI D s A xo gg gr ce tr sh ar ti n1 l1 s2 a2 s3 a3 n2 l2 mo mw mct mp mnm m1 m2 mt mk mr ml mq out cS cS2 cG cJ1 cS3 cJ2 k1 k2 k3 k4 k5 k6 k7 k8 k9c k10 k11 cO H locs) (hl : lv_has ls 8 [(0, .ref b), (1, .ref xo), (2, .ref mo), (3, .ref out), (4, .int (nI i))]) (hc9 : cells + 8 ≤ 601024) (hs9 : slots + 64 ≤ 7293034) (K : LWK p l e s mi9 belowM methM cM Q D A b i xo gg gr ce tr sh ar ti n1 l1 s2 a2 s3 a3 n2 l2 mo mw mct mp mnm m1 m2 mt mk mr ml mq out cS cS2 cG cJ1 cS3 cJ2 k1 k2 k3 k4 k5 k6 k7 k8 k9c k10 k11 cO cells slots) : W p l e room_1 s mi9 #[Value.ref b] belowM methM cM H locs cells slots Q (F0 mi9 819 ls []) := by
  obtain ⟨hx, hb, hml, hown, hts, hX, hbl, hbA, hA, hK, hNw, hZ, hXt, hst, hL⟩ := hE
  obtain ⟨n, m, wd, ct, pa, nm, dp, ki, ea, wa, ic, lf, pt, f, fk, fc, z1, fN, z3, fr, z2, fs, th, om, tm, u1, u2, u3, u4, u5, u6, fo, hI, hfe, hfk, hP, hD, hS⟩ := hW
  have hI0 := hI
  obtain ⟨hn40, hg, hwi, hct, hpn, hun, hnm, hnz, hdp, hKN, hSR⟩ := hI0
  have hmn := kn_le hKN hSR
  have hm : m ≤ 40 := Nat.le_trans hmn hn40
  have hki : ∀ j, j < m → ki j < n := fun j h => (hKN.1 j h).1
  have hcb : ∀ k, k < n → ct k < 2 ^ 31 := fun k h => by have := hct k h; omega
  have hnb : ∀ k, k < n → nm k < 2 ^ 31 := fun k h => by have := hnm k h; omega
  have hmz : ∀ i, i < n → ct i = 0 → m < n := fun i h h0 => kn_lt hKN hSR h h0
  have hkinj := srt_inj hSR
  have hkn := hKN.2
  have heai := q_poolinj hD
  have hR0 : va_P D vwCl [] s.heap := q_Pof (fun _ h => absurd h List.not_mem_nil)
  have hR := hR0
  have hna : ∀ q ∈ ([] : va_W), ¬ A q.1 := fun q h => absurd h List.not_mem_nil
  have hnR : (([] : va_W).map (·.1)).Nodup := List.nodup_nil
  refine lv_aload_n hx hb dL_law_819 rfl (lv_at hl 1 rfl) ?_
  refine lv_aload_n hx hb dL_law_820 rfl (lv_at hl 0 rfl) ?_
  refine lv_iload hx hb dL_law_821 (lv_at hl 4 rfl) ?_
  refine lv_iconst (v := nI 1) hx hb dL_law_823 (by decide) ?_
  refine q_iadd (d := i + 1) hx hb dL_law_824 (by omega) ?_
  refine va_sld hx hb hX hbl hbA hS (vp_in_nI (n := i + 1) (N := L) (by omega) (by omega)) dL_law_825 ?_
  rw [nI_clamp (n := i + 1) (by omega)]
  refine lv_i2l hx hb dL_law_826 rfl ?_
  refine lv_bipush (v := nI 32) hx hb dL_law_827 (by decide) ?_
  refine lv_lshl hx hb dL_law_829 rfl ?_
  refine lv_aload_n hx hb dL_law_830 rfl (lv_at hl 0 rfl) ?_
  refine lv_iload hx hb dL_law_831 (lv_at hl 4 rfl) ?_
  refine lv_iconst (v := nI 2) hx hb dL_law_833 (by decide) ?_
  refine q_iadd (d := i + 2) hx hb dL_law_834 (by omega) ?_
  refine va_sld hx hb hX hbl hbA hS (vp_in_nI (n := i + 2) (N := L) (by omega) (by omega)) dL_law_835 ?_
  rw [nI_clamp (n := i + 2) (by omega)]
  refine lv_i2l hx hb dL_law_836 rfl ?_
  refine lv_ldc2 (v := 4294967295) hx hb hown (hts (.constantLong RL 80 (4294967295)) (List.mem_of_getElem? (i := 7) rfl)) dL_law_837 ?_
  refine q_cvl (show (4294967295 : Int64) = lN 4294967295 by decide) ?_
  refine lv_land hx hb dL_law_840 ?_
  refine lv_lor hx hb dL_law_841 ?_
  obtain ⟨a, ha, hqa⟩ := q_lN ((((xs (i + 1)).toInt64) <<< ((nI 32).toInt64 &&& 63)) ||| (((xs (i + 2)).toInt64) &&& (lN 4294967295)))
  refine q_cvl hqa ?_
  refine lv_aload_n hx hb dL_law_842 rfl (lv_at hl 0 rfl) ?_
  refine lv_iload hx hb dL_law_843 (lv_at hl 4 rfl) ?_
  refine lv_iconst (v := nI 3) hx hb dL_law_845 (by decide) ?_
  refine q_iadd (d := i + 3) hx hb dL_law_846 (by omega) ?_
  refine va_sld hx hb hX hbl hbA hS (vp_in_nI (n := i + 3) (N := L) (by omega) (by omega)) dL_law_847 ?_
  rw [nI_clamp (n := i + 3) (by omega)]
  refine lv_aload_n hx hb dL_law_848 rfl (lv_at hl 3 rfl) ?_
  have hF := q_freeT (X := [(xo, .inr (8, [.ref gg, .ref tr, .ref ti, .ref s2, .ref s3, .ref n2])), (gg, .inr (1, [.ref gr])), (gr, .inr (2, [.ref ce])), (ce, .inl (cG, 121, .inl fc)), (tr, .inr (5, [.ref sh])), (sh, .inr (4, [.ref ar, .int (nI n)])), (ar, .inl (cS, 40, .inr (.inr (.inr (.inr f))))), (ti, .inr (6, [.ref n1])), (n1, .inr (3, [.ref l1, .int z1])), (l1, .inl (cJ1, 401, .inr (.inl fN))), (s2, .inr (4, [.ref a2, .int (nI m)])), (a2, .inl (cS2, 40, .inr (.inr (.inr (.inr fk))))), (s3, .inr (4, [.ref a3, .int z3])), (a3, .inl (cS3, 40, .inr (.inr (.inr (.inr fr))))), (n2, .inr (3, [.ref l2, .int z2])), (l2, .inl (cJ2, 56, .inr (.inl fs))), (mo, .inr (9, [.int th, .int (nI n), .ref mw, .ref mct, .ref mp, .ref mnm, .ref m1, .ref m2, .int om, .int tm, .ref mt, .ref mk, .ref mr, .ref ml, .ref mq])), (mw, .inl (k1, 40, .inr (.inl (fun k9 => lN (wd k9))))), (mct, .inl (k2, 40, .inl (fun k9 => nI (ct k9)))), (mp, .inl (k3, 40, .inl (fun k9 => pin (pa k9)))), (mnm, .inl (k4, 40, .inl (fun k9 => nI (nm k9)))), (m1, .inl (k5, 11, .inl u1)), (m2, .inl (k6, 11, .inl u2)), (mt, .inl (k7, 121, .inl u3)), (mk, .inl (k8, 27, .inl (fun k9 => nI (kyf k9)))), (mr, .inl (k9c, 401, .inr (.inl u4))), (ml, .inl (k10, 64, .inr (.inl u5))), (mq, .inl (k11, 64, .inr (.inl u6))), (out, .inl (cO, 1, .inr (.inl fo)))]) (T := (EW ea wa (fun k => (pa k).map ea) nm dp ct ic lf pt n ++ WW wa wd n)) (cx := [(out, .inl (cO, 1, .inr (.inl fo))), (s3, .inr (4, [.ref a3, .int z3])), (a3, .inl (cS3, 40, .inr (.inr (.inr (.inr fr))))), (ce, .inl (cG, 121, .inl fc))]) hD hS hA [28, 12, 13, 3] rfl
  refine va_calli (vx_runSW (As := [.ref xo, .long (lN a), .int (xs (i + 3)), .ref out]) (rest := []) ⟨hx, hb, hml, hown, hts⟩ (c_L_corrections (l := l) (D := D) (xo := xo) (gg := gg) (gr := gr) (ce := ce) (tr := tr) (sh := sh) (ar := ar) (ti := ti) (n1 := n1) (l1 := l1) (s2 := s2) (a2 := a2) (s3 := s3) (a3 := a3) (n2 := n2) (l2 := l2) (cS2 := cS2) (fk := fk) (m := m) (ki := ki) (ea := ea) (wa := wa) (pf := (fun k => (pa k).map ea)) (cn := nm) (dp := dp) (oc := ct) (ic := ic) (lf := lf) (pt := pt) (wd := wd) (n := n) (cG := cG) (fc := fc) (cS3 := cS3) (fr := fr) (z3 := z3) (a := a) (x9 := xs (i + 3)) (out := out) (cO := cO) (fo := fo) (sz := H.size) (hnd := (q_ndws (q_ndt (a' := [out, s3, a3, ce]) (b' := [xo, gg, gr, s2, a2]) (q_ndsw (q_ndg (l1 := [xo, gg, gr, ce, tr, sh, ar, ti, n1, l1, s2, a2, s3, a3, n2, l2, mo, mw, mct, mp, mnm, m1, m2, mt, mk, mr, ml, mq, out] ++ (rg ea n ++ rg wa n)) (l2 := []) hD hnR hna (by rw [List.map_append, List.map_append, EW_fst, WW_fst]; rfl) rfl)) [28, 12, 13, 3, 0, 1, 2, 10, 11] rfl rfl))) (hst := hst) (ha := by omega) (hm := hm) (hf := hfk) (hki := hki) (hg := hg) (hob := hcb)) (vx_cwSW 4 hts gL_law_L_corrections rfl rfl rfl (by decide +kernel) ⟨Nat.le_of_ble_eq_true rfl, Nat.le_of_ble_eq_true rfl⟩) ⟨qWx_blind, (qWx_of (hP.sub (ws' := [(xo, .inr (8, [.ref gg, .ref tr, .ref ti, .ref s2, .ref s3, .ref n2])), (gg, .inr (1, [.ref gr])), (gr, .inr (2, [.ref ce])), (s2, .inr (4, [.ref a2, .int (nI m)])), (a2, .inl (cS2, 40, .inr (.inr (.inr (.inr fk)))))]) [0, 1, 2, 10, 11] rfl) (va_P.app (hP.sub (ws' := [(out, .inl (cO, 1, .inr (.inl fo))), (s3, .inr (4, [.ref a3, .int z3])), (a3, .inl (cS3, 40, .inr (.inr (.inr (.inr fr))))), (ce, .inl (cG, 121, .inl fc))]) [28, 12, 13, 3] rfl) (q_right hP)) (hK.sub (tys' := [(cO, .long), (cS3, .object "FuzzyFens$Entry"), (cG, .int), (cS2, .object "FuzzyFens$Entry")]) [17, 4, 0, 3] rfl) hNw (qZ_at hZ hS (fun q h => hF q h)) hXt)⟩ rfl rfl hl.1 rfl (lv_room (Nat.le_of_ble_eq_true rfl)) dL_law_849 ⟨by show _ ≤ 601024; omega, by show _ ≤ 7293034; omega⟩) hS (fun q _ h => hF q h) hF (fun rv8 u_5 t_4 H_2 locs_3 ht hvm hrv8 hB hz1 hk1 hS => ?_)
  obtain ⟨z4_6, fr2_7, fc2_8, pt2_9, fo8⟩ := u_5
  dsimp only at hrv8 hB
  replace hB : va_P D vwCl ([(out, .inl (cO, 1, .inr (.inl fo8))), (s3, .inr (4, [.ref a3, .int z4_6])), (a3, .inl (cS3, 40, .inr (.inr (.inr (.inr fr2_7))))), (ce, .inl (cG, 121, .inl fc2_8))] ++ (EW ea wa (fun k => (pa k).map ea) nm dp ct ic lf pt2_9 n ++ WW wa wd n)) H_2 := by rw [← ht]; exact hB
  obtain ⟨hP, hD⟩ := q_joinT (X := [(xo, .inr (8, [.ref gg, .ref tr, .ref ti, .ref s2, .ref s3, .ref n2])), (gg, .inr (1, [.ref gr])), (gr, .inr (2, [.ref ce])), (ce, .inl (cG, 121, .inl fc)), (tr, .inr (5, [.ref sh])), (sh, .inr (4, [.ref ar, .int (nI n)])), (ar, .inl (cS, 40, .inr (.inr (.inr (.inr f))))), (ti, .inr (6, [.ref n1])), (n1, .inr (3, [.ref l1, .int z1])), (l1, .inl (cJ1, 401, .inr (.inl fN))), (s2, .inr (4, [.ref a2, .int (nI m)])), (a2, .inl (cS2, 40, .inr (.inr (.inr (.inr fk))))), (s3, .inr (4, [.ref a3, .int z3])), (a3, .inl (cS3, 40, .inr (.inr (.inr (.inr fr))))), (n2, .inr (3, [.ref l2, .int z2])), (l2, .inl (cJ2, 56, .inr (.inl fs))), (mo, .inr (9, [.int th, .int (nI n), .ref mw, .ref mct, .ref mp, .ref mnm, .ref m1, .ref m2, .int om, .int tm, .ref mt, .ref mk, .ref mr, .ref ml, .ref mq])), (mw, .inl (k1, 40, .inr (.inl (fun k9 => lN (wd k9))))), (mct, .inl (k2, 40, .inl (fun k9 => nI (ct k9)))), (mp, .inl (k3, 40, .inl (fun k9 => pin (pa k9)))), (mnm, .inl (k4, 40, .inl (fun k9 => nI (nm k9)))), (m1, .inl (k5, 11, .inl u1)), (m2, .inl (k6, 11, .inl u2)), (mt, .inl (k7, 121, .inl u3)), (mk, .inl (k8, 27, .inl (fun k9 => nI (kyf k9)))), (mr, .inl (k9c, 401, .inr (.inl u4))), (ml, .inl (k10, 64, .inr (.inl u5))), (mq, .inl (k11, 64, .inr (.inl u6))), (out, .inl (cO, 1, .inr (.inl fo)))]) (T := (EW ea wa (fun k => (pa k).map ea) nm dp ct ic lf pt n ++ WW wa wd n)) (cx := [(out, .inl (cO, 1, .inr (.inl fo))), (s3, .inr (4, [.ref a3, .int z3])), (a3, .inl (cS3, 40, .inr (.inr (.inr (.inr fr))))), (ce, .inl (cG, 121, .inl fc))]) (cx' := [(out, .inl (cO, 1, .inr (.inl fo8))), (s3, .inr (4, [.ref a3, .int z4_6])), (a3, .inl (cS3, 40, .inr (.inr (.inr (.inr fr2_7))))), (ce, .inl (cG, 121, .inl fc2_8))]) (T' := (EW ea wa (fun k => (pa k).map ea) nm dp ct ic lf pt2_9 n ++ WW wa wd n)) (X' := [(xo, .inr (8, [.ref gg, .ref tr, .ref ti, .ref s2, .ref s3, .ref n2])), (gg, .inr (1, [.ref gr])), (gr, .inr (2, [.ref ce])), (ce, .inl (cG, 121, .inl fc2_8)), (tr, .inr (5, [.ref sh])), (sh, .inr (4, [.ref ar, .int (nI n)])), (ar, .inl (cS, 40, .inr (.inr (.inr (.inr f))))), (ti, .inr (6, [.ref n1])), (n1, .inr (3, [.ref l1, .int z1])), (l1, .inl (cJ1, 401, .inr (.inl fN))), (s2, .inr (4, [.ref a2, .int (nI m)])), (a2, .inl (cS2, 40, .inr (.inr (.inr (.inr fk))))), (s3, .inr (4, [.ref a3, .int z4_6])), (a3, .inl (cS3, 40, .inr (.inr (.inr (.inr fr2_7))))), (n2, .inr (3, [.ref l2, .int z2])), (l2, .inl (cJ2, 56, .inr (.inl fs))), (mo, .inr (9, [.int th, .int (nI n), .ref mw, .ref mct, .ref mp, .ref mnm, .ref m1, .ref m2, .int om, .int tm, .ref mt, .ref mk, .ref mr, .ref ml, .ref mq])), (mw, .inl (k1, 40, .inr (.inl (fun k9 => lN (wd k9))))), (mct, .inl (k2, 40, .inl (fun k9 => nI (ct k9)))), (mp, .inl (k3, 40, .inl (fun k9 => pin (pa k9)))), (mnm, .inl (k4, 40, .inl (fun k9 => nI (nm k9)))), (m1, .inl (k5, 11, .inl u1)), (m2, .inl (k6, 11, .inl u2)), (mt, .inl (k7, 121, .inl u3)), (mk, .inl (k8, 27, .inl (fun k9 => nI (kyf k9)))), (mr, .inl (k9c, 401, .inr (.inl u4))), (ml, .inl (k10, 64, .inr (.inl u5))), (mq, .inl (k11, 64, .inr (.inl u6))), (out, .inl (cO, 1, .inr (.inl fo8)))]) [28, 12, 13, 3] hP hD rfl rfl (by simp only [List.map_append, EW_fst, WW_fst]) hk1 hB rfl
  have hR := q_ro hR0 hna hS
  have hF8 := hrv8
  refine lv_istore (lv' := [(5, .int rv8), (0, .ref b), (1, .ref xo), (2, .ref mo), (3, .ref out), (4, .int (nI i))]) hx hb dL_law_852 hl (by decide) rfl (fun ls hl => ?_)
  refine lv_aload_n hx hb dL_law_854 rfl (lv_at hl 3 rfl) ?_
  refine lv_aload_n hx hb dL_law_855 rfl (lv_at hl 1 rfl) ?_
  refine lv_iload hx hb dL_law_856 (lv_at hl 5 rfl) ?_
  refine lv_iconst (v := nI 1) hx hb dL_law_858 (by decide) ?_
  refine q_iadd (d := i + 1) hx hb dL_law_859 (by omega) ?_
  refine va_sld hx hb hX hbl hbA hS (vp_in_nI (n := i + 1) (N := L) (by omega) (by omega)) dL_law_860 ?_
  rw [nI_clamp (n := i + 1) (by omega)]
  refine lv_i2l hx hb dL_law_861 rfl ?_
  refine lv_bipush (v := nI 32) hx hb dL_law_862 (by decide) ?_
  refine lv_lshl hx hb dL_law_864 rfl ?_
  refine lv_aload_n hx hb dL_law_865 rfl (lv_at hl 1 rfl) ?_
  refine lv_iload hx hb dL_law_866 (lv_at hl 5 rfl) ?_
  refine lv_iconst (v := nI 2) hx hb dL_law_868 (by decide) ?_
  refine q_iadd (d := i + 2) hx hb dL_law_869 (by omega) ?_
  refine va_sld hx hb hX hbl hbA hS (vp_in_nI (n := i + 2) (N := L) (by omega) (by omega)) dL_law_870 ?_
  rw [nI_clamp (n := i + 2) (by omega)]
  refine lv_i2l hx hb dL_law_871 rfl ?_
  refine lv_ldc2 (v := 4294967295) hx hb hown (hts (.constantLong RL 80 (4294967295)) (List.mem_of_getElem? (i := 7) rfl)) dL_law_872 ?_
  refine q_cvl (show (4294967295 : Int64) = lN 4294967295 by decide) ?_
  refine lv_land hx hb dL_law_875 ?_
  refine lv_lor hx hb dL_law_876 ?_
  refine q_cvl hqa ?_
  refine lv_aload_n hx hb dL_law_877 rfl (lv_at hl 1 rfl) ?_
  refine lv_iload hx hb dL_law_878 (lv_at hl 5 rfl) ?_
  refine lv_iconst (v := nI 3) hx hb dL_law_880 (by decide) ?_
  refine q_iadd (d := i + 3) hx hb dL_law_881 (by omega) ?_
  refine va_sld hx hb hX hbl hbA hS (vp_in_nI (n := i + 3) (N := L) (by omega) (by omega)) dL_law_882 ?_
  rw [nI_clamp (n := i + 3) (by omega)]
  have hF := va_free (wc := [(mo, .inr (9, [.int th, .int (nI n), .ref mw, .ref mct, .ref mp, .ref mnm, .ref m1, .ref m2, .int om, .int tm, .ref mt, .ref mk, .ref mr, .ref ml, .ref mq])), (m1, .inl (k5, 11, .inl u1)), (m2, .inl (k6, 11, .inl u2)), (mt, .inl (k7, 121, .inl u3))]) hD hS hA [16, 21, 22, 23] rfl
  refine va_calli (va_runV (As := [.long (lN a), .int (xs (i + 3))]) (rest := []) ⟨hx, hb, hml, hown, hts⟩ (c_X10_corrections (l := l) (D := D) (mo := mo) (mw := mw) (mct := mct) (mp := mp) (mnm := mnm) (m1 := m1) (m2 := m2) (mt := mt) (mk := mk) (mr := mr) (ml := ml) (mq := mq) (k1 := k1) (k2 := k2) (k5 := k5) (k6 := k6) (k7 := k7) (th := th) (n := n) (om := om) (tm := tm) (f1 := u1) (f2 := u2) (ft := u3) (wd := wd) (ct := ct) (a := a) (x9 := xs (i + 3)) (sz := H_2.size) (hnd := (q_nds (q_ndl (q_ndsw (q_ndg (l1 := [xo, gg, gr, ce, tr, sh, ar, ti, n1, l1, s2, a2, s3, a3, n2, l2, mo, mw, mct, mp, mnm, m1, m2, mt, mk, mr, ml, mq, out] ++ (rg ea n ++ rg wa n)) (l2 := []) hD hnR hna (by rw [List.map_append, List.map_append, EW_fst, WW_fst]; rfl) rfl))) [16, 21, 22, 23, 17, 18] rfl rfl)) (ha := by omega) (hn40 := hn40) (hgw := hg) (hcb := hcb)) (cwV 2 hts gL_law_X10_corrections rfl rfl rfl (by decide +kernel) ⟨Nat.le_of_ble_eq_true rfl, Nat.le_of_ble_eq_true rfl⟩) ⟨qW_blind, (va_recv hK hP (ci := 9) (q0 := 16) rfl rfl), (qW_of (hP.sub (ws' := [(mw, .inl (k1, 40, .inr (.inl (fun k9 => lN (wd k9))))), (mct, .inl (k2, 40, .inl (fun k9 => nI (ct k9))))]) [17, 18] rfl) (hP.sub (ws' := [(mo, .inr (9, [.int th, .int (nI n), .ref mw, .ref mct, .ref mp, .ref mnm, .ref m1, .ref m2, .int om, .int tm, .ref mt, .ref mk, .ref mr, .ref ml, .ref mq])), (m1, .inl (k5, 11, .inl u1)), (m2, .inl (k6, 11, .inl u2)), (mt, .inl (k7, 121, .inl u3))]) [16, 21, 22, 23] rfl) (hK.sub (tys' := [(k5, .int), (k6, .int), (k7, .int), (k1, .long), (k2, .int)]) [10, 11, 12, 6, 7] rfl) hNw)⟩ rfl rfl hl.1 rfl (lv_room (Nat.le_of_ble_eq_true rfl)) dL_law_883 ⟨by show _ ≤ 601024; omega, by show _ ≤ 7293034; omega⟩) hS (fun q _ h => hF q h) hF (fun rb8 u_14 t_13 H_11 locs_12 ht hvm hrb8 hB hz1 hk1 hS => ?_)
  obtain ⟨t8, o2_15, q2_16, g1_17, g2_18, g3_19⟩ := u_14
  dsimp only at hrb8 hB
  replace hB : va_P D vwCl [(mo, .inr (9, [.int t8, .int (nI n), .ref mw, .ref mct, .ref mp, .ref mnm, .ref m1, .ref m2, .int o2_15, .int q2_16, .ref mt, .ref mk, .ref mr, .ref ml, .ref mq])), (m1, .inl (k5, 11, .inl g1_17)), (m2, .inl (k6, 11, .inl g2_18)), (mt, .inl (k7, 121, .inl g3_19))] H_11 := by rw [← ht]; exact hB
  obtain ⟨hP, hD⟩ := q_join (wc := [(mo, .inr (9, [.int th, .int (nI n), .ref mw, .ref mct, .ref mp, .ref mnm, .ref m1, .ref m2, .int om, .int tm, .ref mt, .ref mk, .ref mr, .ref ml, .ref mq])), (m1, .inl (k5, 11, .inl u1)), (m2, .inl (k6, 11, .inl u2)), (mt, .inl (k7, 121, .inl u3))]) (w1 := [(mo, .inr (9, [.int t8, .int (nI n), .ref mw, .ref mct, .ref mp, .ref mnm, .ref m1, .ref m2, .int o2_15, .int q2_16, .ref mt, .ref mk, .ref mr, .ref ml, .ref mq])), (m1, .inl (k5, 11, .inl g1_17)), (m2, .inl (k6, 11, .inl g2_18)), (mt, .inl (k7, 121, .inl g3_19))]) (ws' := [(xo, .inr (8, [.ref gg, .ref tr, .ref ti, .ref s2, .ref s3, .ref n2])), (gg, .inr (1, [.ref gr])), (gr, .inr (2, [.ref ce])), (ce, .inl (cG, 121, .inl fc2_8)), (tr, .inr (5, [.ref sh])), (sh, .inr (4, [.ref ar, .int (nI n)])), (ar, .inl (cS, 40, .inr (.inr (.inr (.inr f))))), (ti, .inr (6, [.ref n1])), (n1, .inr (3, [.ref l1, .int z1])), (l1, .inl (cJ1, 401, .inr (.inl fN))), (s2, .inr (4, [.ref a2, .int (nI m)])), (a2, .inl (cS2, 40, .inr (.inr (.inr (.inr fk))))), (s3, .inr (4, [.ref a3, .int z4_6])), (a3, .inl (cS3, 40, .inr (.inr (.inr (.inr fr2_7))))), (n2, .inr (3, [.ref l2, .int z2])), (l2, .inl (cJ2, 56, .inr (.inl fs))), (mo, .inr (9, [.int t8, .int (nI n), .ref mw, .ref mct, .ref mp, .ref mnm, .ref m1, .ref m2, .int o2_15, .int q2_16, .ref mt, .ref mk, .ref mr, .ref ml, .ref mq])), (mw, .inl (k1, 40, .inr (.inl (fun k9 => lN (wd k9))))), (mct, .inl (k2, 40, .inl (fun k9 => nI (ct k9)))), (mp, .inl (k3, 40, .inl (fun k9 => pin (pa k9)))), (mnm, .inl (k4, 40, .inl (fun k9 => nI (nm k9)))), (m1, .inl (k5, 11, .inl g1_17)), (m2, .inl (k6, 11, .inl g2_18)), (mt, .inl (k7, 121, .inl g3_19)), (mk, .inl (k8, 27, .inl (fun k9 => nI (kyf k9)))), (mr, .inl (k9c, 401, .inr (.inl u4))), (ml, .inl (k10, 64, .inr (.inl u5))), (mq, .inl (k11, 64, .inr (.inl u6))), (out, .inl (cO, 1, .inr (.inl fo8)))] ++ (EW ea wa (fun k => (pa k).map ea) nm dp ct ic lf pt2_9 n ++ WW wa wd n)) [16, 21, 22, 23] hP hD rfl rfl hk1 hB rfl
  have hR := q_ro hR0 hna hS
  obtain ⟨g80, g81⟩ := hrb8
  have hE : t8 = rv8 ∧ (rv8 = 0 → fo8 0 = (rb8).toInt64) := q_hv1 hF8 g80 (fun h9 => by rw [g81 h9, corr_cnt hKN hSR])
  refine lv_istore (lv' := [(6, .int rb8), (5, .int rv8), (0, .ref b), (1, .ref xo), (2, .ref mo), (3, .ref out), (4, .int (nI i))]) hx hb dL_law_886 hl (by decide) rfl (fun ls hl => ?_)
  refine lv_aload_n hx hb dL_law_888 rfl (lv_at hl 4 rfl) ?_
  refine vp_callSi (W.runV (As := []) (rest := []) ⟨hx, hb, hml, hown, hts⟩ (c_X10_thrown (l := l) (D := D) (mo := mo) (mw := mw) (mct := mct) (mp := mp) (mnm := mnm) (m1 := m1) (m2 := m2) (mt := mt) (mk := mk) (mr := mr) (ml := ml) (mq := mq) (th := t8) (n := n) (om := o2_15) (tm := q2_16) ) (cwV 0 hts gL_law_X10_thrown rfl rfl rfl (by decide +kernel) ⟨Nat.le_of_ble_eq_true rfl, Nat.le_of_ble_eq_true rfl⟩) ⟨qP_blind, (va_recv hK hP (ci := 9) (q0 := 16) rfl rfl), (qP_of (hP.sub (ws' := [(mo, .inr (9, [.int t8, .int (nI n), .ref mw, .ref mct, .ref mp, .ref mnm, .ref m1, .ref m2, .int o2_15, .int q2_16, .ref mt, .ref mk, .ref mr, .ref ml, .ref mq]))]) [16] rfl) (hK.sub (tys' := []) [] rfl) hNw)⟩ rfl rfl hl.1 rfl (lv_room (Nat.le_of_ble_eq_true rfl)) dL_law_889 ⟨by show _ ≤ 601024; omega, by show _ ≤ 7293034; omega⟩) (fun r_20 hr_20 => ?_)
  have hr_20 := hr_20.symm
  subst hr_20
  refine lv_iload hx hb dL_law_892 (lv_at hl 1 rfl) ?_
  refine lv_icmp_eq (tgt := 899) hx hb dL_law_894 (by decide) (fun c_894 => ?_) (fun c_894 => False.elim (by exact c_894 hE.1))
  refine lv_iload hx hb dL_law_899 (lv_at hl 1 rfl) ?_
  refine lv_if_ne (tgt := 916) hx hb dL_law_901 (by decide) (fun c_901 => ?_) (fun c_901 => ?_)
  · skip
    refine lv_goto (tgt := 1919) hx hb dL_law_916 (by decide) ?_
    exact K _ _ _ _ _ ⟨n, m, wd, ct, pa, nm, dp, ki, ea, wa, ic, lf, pt2_9, f, fk, fc2_8, z1, fN, z4_6, fr2_7, z2, fs, t8, o2_15, q2_16, g1_17, g2_18, g3_19, u4, u5, u6, fo8, hI, hfe, hfk, hP, hD, hS⟩ (lv_sub hl [2, 3, 4, 5, 6] rfl) (by omega) (by omega)
  · skip
    refine lv_aload_n hx hb dL_law_904 rfl (lv_at hl 5 rfl) ?_
    refine lv_iconst (v := nI 0) hx hb dL_law_905 (by decide) ?_
    refine va_lald (D := D) hx hb hK hP 28 17 rfl rfl (vp_in_nI (n := 0) (N := 1) (by omega) (by decide)) dL_law_906 ?_
    rw [nI_clamp (n := 0) (by omega)]
    refine lv_iload hx hb dL_law_907 (lv_at hl 0 rfl) ?_
    refine lv_i2l hx hb dL_law_909 rfl ?_
    refine W.lcmp hx hb dL_law_910 ?_
    refine q_lr_eq (tgt := 916) hx hb dL_law_911 (by decide) (fun c_911 => ?_) (fun c_911 => False.elim (by exact c_911 (hE.2 c_901)))
    refine lv_goto (tgt := 1919) hx hb dL_law_916 (by decide) ?_
    exact K _ _ _ _ _ ⟨n, m, wd, ct, pa, nm, dp, ki, ea, wa, ic, lf, pt2_9, f, fk, fc2_8, z1, fN, z4_6, fr2_7, z2, fs, t8, o2_15, q2_16, g1_17, g2_18, g3_19, u4, u5, u6, fo8, hI, hfe, hfk, hP, hD, hS⟩ (lv_sub hl [2, 3, 4, 5, 6] rfl) (by omega) (by omega)

set_option maxHeartbeats 4000000 in
set_option maxRecDepth 100000 in
/-- correction -/
theorem lw_c919 {p : Program} {l : Launch} {e : Env} {s : State} {mi9 : MethodId} {belowM : List Frame} {methM : Method} {cM : Code} {Q : State → Prop} {D : va_G} {A : Nat → Prop} {b L i : Nat} {xs : Nat → Int32} {xo gg gr ce tr sh ar ti n1 l1 s2 a2 s3 a3 n2 l2 mo mw mct mp mnm m1 m2 mt mk mr ml mq out : Nat} {cS cS2 cG cJ1 cS3 cJ2 k1 k2 k3 k4 k5 k6 k7 k8 k9c k10 k11 cO : ClassId} {H : Heap} {locs : List Loc} {ls : Array Slot} {cells slots : Nat} (hE : LWE p l s mi9 cM D A b L xs [(cG, .int), (cS, .object "FuzzyFens$Entry"), (cJ1, .long), (cS2, .object "FuzzyFens$Entry"), (cS3, .object "FuzzyFens$Entry"), (cJ2, .long), (k1, .long), (k2, .int), (k3, .int), (k4, .int), (k5, .int), (k6, .int), (k7, .int), (k8, .int), (k9c, .long), (k10, .long), (k11, .long), (cO, .long)]) (hi : i + 5 ≤ L) (hW : LWI D s A xo gg gr ce tr sh ar ti n1 l1 s2 a2 s3 a3 n2 l2 mo mw mct mp mnm m1 m2 mt mk mr ml mq out cS cS2 cG cJ1 cS3 cJ2 k1 k2 k3 k4 k5 k6 k7 k8 k9c k10 k11 cO H locs) (hl : lv_has ls 8 [(0, .ref b), (1, .ref xo), (2, .ref mo), (3, .ref out), (4, .int (nI i))]) (hc9 : cells + 8 ≤ 601024) (hs9 : slots + 64 ≤ 7293034) (K : LWK p l e s mi9 belowM methM cM Q D A b i xo gg gr ce tr sh ar ti n1 l1 s2 a2 s3 a3 n2 l2 mo mw mct mp mnm m1 m2 mt mk mr ml mq out cS cS2 cG cJ1 cS3 cJ2 k1 k2 k3 k4 k5 k6 k7 k8 k9c k10 k11 cO cells slots) : W p l e room_1 s mi9 #[Value.ref b] belowM methM cM H locs cells slots Q (F0 mi9 919 ls []) := by
  obtain ⟨hx, hb, hml, hown, hts, hX, hbl, hbA, hA, hK, hNw, hZ, hXt, hst, hL⟩ := hE
  obtain ⟨n, m, wd, ct, pa, nm, dp, ki, ea, wa, ic, lf, pt, f, fk, fc, z1, fN, z3, fr, z2, fs, th, om, tm, u1, u2, u3, u4, u5, u6, fo, hI, hfe, hfk, hP, hD, hS⟩ := hW
  have hI0 := hI
  obtain ⟨hn40, hg, hwi, hct, hpn, hun, hnm, hnz, hdp, hKN, hSR⟩ := hI0
  have hmn := kn_le hKN hSR
  have hm : m ≤ 40 := Nat.le_trans hmn hn40
  have hki : ∀ j, j < m → ki j < n := fun j h => (hKN.1 j h).1
  have hcb : ∀ k, k < n → ct k < 2 ^ 31 := fun k h => by have := hct k h; omega
  have hnb : ∀ k, k < n → nm k < 2 ^ 31 := fun k h => by have := hnm k h; omega
  have hmz : ∀ i, i < n → ct i = 0 → m < n := fun i h h0 => kn_lt hKN hSR h h0
  have hkinj := srt_inj hSR
  have hkn := hKN.2
  have heai := q_poolinj hD
  have hR0 : va_P D vwCl [] s.heap := q_Pof (fun _ h => absurd h List.not_mem_nil)
  have hR := hR0
  have hna : ∀ q ∈ ([] : va_W), ¬ A q.1 := fun q h => absurd h List.not_mem_nil
  have hnR : (([] : va_W).map (·.1)).Nodup := List.nodup_nil
  refine lv_aload_n hx hb dL_law_919 rfl (lv_at hl 1 rfl) ?_
  refine lv_aload_n hx hb dL_law_920 rfl (lv_at hl 0 rfl) ?_
  refine lv_iload hx hb dL_law_921 (lv_at hl 4 rfl) ?_
  refine lv_iconst (v := nI 1) hx hb dL_law_923 (by decide) ?_
  refine q_iadd (d := i + 1) hx hb dL_law_924 (by omega) ?_
  refine va_sld hx hb hX hbl hbA hS (vp_in_nI (n := i + 1) (N := L) (by omega) (by omega)) dL_law_925 ?_
  rw [nI_clamp (n := i + 1) (by omega)]
  refine lv_i2l hx hb dL_law_926 rfl ?_
  refine lv_bipush (v := nI 32) hx hb dL_law_927 (by decide) ?_
  refine lv_lshl hx hb dL_law_929 rfl ?_
  refine lv_aload_n hx hb dL_law_930 rfl (lv_at hl 0 rfl) ?_
  refine lv_iload hx hb dL_law_931 (lv_at hl 4 rfl) ?_
  refine lv_iconst (v := nI 2) hx hb dL_law_933 (by decide) ?_
  refine q_iadd (d := i + 2) hx hb dL_law_934 (by omega) ?_
  refine va_sld hx hb hX hbl hbA hS (vp_in_nI (n := i + 2) (N := L) (by omega) (by omega)) dL_law_935 ?_
  rw [nI_clamp (n := i + 2) (by omega)]
  refine lv_i2l hx hb dL_law_936 rfl ?_
  refine lv_ldc2 (v := 4294967295) hx hb hown (hts (.constantLong RL 80 (4294967295)) (List.mem_of_getElem? (i := 7) rfl)) dL_law_937 ?_
  refine q_cvl (show (4294967295 : Int64) = lN 4294967295 by decide) ?_
  refine lv_land hx hb dL_law_940 ?_
  refine lv_lor hx hb dL_law_941 ?_
  obtain ⟨a, ha, hqa⟩ := q_lN ((((xs (i + 1)).toInt64) <<< ((nI 32).toInt64 &&& 63)) ||| (((xs (i + 2)).toInt64) &&& (lN 4294967295)))
  refine q_cvl hqa ?_
  refine lv_aload_n hx hb dL_law_942 rfl (lv_at hl 0 rfl) ?_
  refine lv_iload hx hb dL_law_943 (lv_at hl 4 rfl) ?_
  refine lv_iconst (v := nI 3) hx hb dL_law_945 (by decide) ?_
  refine q_iadd (d := i + 3) hx hb dL_law_946 (by omega) ?_
  refine va_sld hx hb hX hbl hbA hS (vp_in_nI (n := i + 3) (N := L) (by omega) (by omega)) dL_law_947 ?_
  rw [nI_clamp (n := i + 3) (by omega)]
  refine lv_aload_n hx hb dL_law_948 rfl (lv_at hl 0 rfl) ?_
  refine lv_iload hx hb dL_law_949 (lv_at hl 4 rfl) ?_
  refine lv_iconst (v := nI 4) hx hb dL_law_951 (by decide) ?_
  refine q_iadd (d := i + 4) hx hb dL_law_952 (by omega) ?_
  refine va_sld hx hb hX hbl hbA hS (vp_in_nI (n := i + 4) (N := L) (by omega) (by omega)) dL_law_953 ?_
  rw [nI_clamp (n := i + 4) (by omega)]
  refine lv_aload_n hx hb dL_law_954 rfl (lv_at hl 3 rfl) ?_
  have hF := q_freeT (X := [(xo, .inr (8, [.ref gg, .ref tr, .ref ti, .ref s2, .ref s3, .ref n2])), (gg, .inr (1, [.ref gr])), (gr, .inr (2, [.ref ce])), (ce, .inl (cG, 121, .inl fc)), (tr, .inr (5, [.ref sh])), (sh, .inr (4, [.ref ar, .int (nI n)])), (ar, .inl (cS, 40, .inr (.inr (.inr (.inr f))))), (ti, .inr (6, [.ref n1])), (n1, .inr (3, [.ref l1, .int z1])), (l1, .inl (cJ1, 401, .inr (.inl fN))), (s2, .inr (4, [.ref a2, .int (nI m)])), (a2, .inl (cS2, 40, .inr (.inr (.inr (.inr fk))))), (s3, .inr (4, [.ref a3, .int z3])), (a3, .inl (cS3, 40, .inr (.inr (.inr (.inr fr))))), (n2, .inr (3, [.ref l2, .int z2])), (l2, .inl (cJ2, 56, .inr (.inl fs))), (mo, .inr (9, [.int th, .int (nI n), .ref mw, .ref mct, .ref mp, .ref mnm, .ref m1, .ref m2, .int om, .int tm, .ref mt, .ref mk, .ref mr, .ref ml, .ref mq])), (mw, .inl (k1, 40, .inr (.inl (fun k9 => lN (wd k9))))), (mct, .inl (k2, 40, .inl (fun k9 => nI (ct k9)))), (mp, .inl (k3, 40, .inl (fun k9 => pin (pa k9)))), (mnm, .inl (k4, 40, .inl (fun k9 => nI (nm k9)))), (m1, .inl (k5, 11, .inl u1)), (m2, .inl (k6, 11, .inl u2)), (mt, .inl (k7, 121, .inl u3)), (mk, .inl (k8, 27, .inl (fun k9 => nI (kyf k9)))), (mr, .inl (k9c, 401, .inr (.inl u4))), (ml, .inl (k10, 64, .inr (.inl u5))), (mq, .inl (k11, 64, .inr (.inl u6))), (out, .inl (cO, 1, .inr (.inl fo)))]) (T := (EW ea wa (fun k => (pa k).map ea) nm dp ct ic lf pt n ++ WW wa wd n)) (cx := [(out, .inl (cO, 1, .inr (.inl fo))), (s3, .inr (4, [.ref a3, .int z3])), (a3, .inl (cS3, 40, .inr (.inr (.inr (.inr fr))))), (ce, .inl (cG, 121, .inl fc))]) hD hS hA [28, 12, 13, 3] rfl
  refine va_calli (vx_runSW (As := [.ref xo, .long (lN a), .int (xs (i + 3)), .int (xs (i + 4)), .ref out]) (rest := []) ⟨hx, hb, hml, hown, hts⟩ (c_L_correction (l := l) (D := D) (xo := xo) (gg := gg) (gr := gr) (ce := ce) (tr := tr) (sh := sh) (ar := ar) (ti := ti) (n1 := n1) (l1 := l1) (s2 := s2) (a2 := a2) (s3 := s3) (a3 := a3) (n2 := n2) (l2 := l2) (cS2 := cS2) (fk := fk) (m := m) (ki := ki) (ea := ea) (wa := wa) (pf := (fun k => (pa k).map ea)) (cn := nm) (dp := dp) (oc := ct) (ic := ic) (lf := lf) (pt := pt) (wd := wd) (n := n) (cG := cG) (fc := fc) (cS3 := cS3) (fr := fr) (z3 := z3) (a := a) (x9 := xs (i + 3)) (y9 := xs (i + 4)) (out := out) (cO := cO) (fo := fo) (sz := H.size) (hnd := (q_ndws (q_ndt (a' := [out, s3, a3, ce]) (b' := [xo, gg, gr, s2, a2]) (q_ndsw (q_ndg (l1 := [xo, gg, gr, ce, tr, sh, ar, ti, n1, l1, s2, a2, s3, a3, n2, l2, mo, mw, mct, mp, mnm, m1, m2, mt, mk, mr, ml, mq, out] ++ (rg ea n ++ rg wa n)) (l2 := []) hD hnR hna (by rw [List.map_append, List.map_append, EW_fst, WW_fst]; rfl) rfl)) [28, 12, 13, 3, 0, 1, 2, 10, 11] rfl rfl))) (hst := hst) (ha := by omega) (hm := hm) (hf := hfk) (hki := hki) (hg := hg) (hob := hcb)) (vx_cwSW 5 hts gL_law_L_correction rfl rfl rfl (by decide +kernel) ⟨Nat.le_of_ble_eq_true rfl, Nat.le_of_ble_eq_true rfl⟩) ⟨qWx_blind, (qWx_of (hP.sub (ws' := [(xo, .inr (8, [.ref gg, .ref tr, .ref ti, .ref s2, .ref s3, .ref n2])), (gg, .inr (1, [.ref gr])), (gr, .inr (2, [.ref ce])), (s2, .inr (4, [.ref a2, .int (nI m)])), (a2, .inl (cS2, 40, .inr (.inr (.inr (.inr fk)))))]) [0, 1, 2, 10, 11] rfl) (va_P.app (hP.sub (ws' := [(out, .inl (cO, 1, .inr (.inl fo))), (s3, .inr (4, [.ref a3, .int z3])), (a3, .inl (cS3, 40, .inr (.inr (.inr (.inr fr))))), (ce, .inl (cG, 121, .inl fc))]) [28, 12, 13, 3] rfl) (q_right hP)) (hK.sub (tys' := [(cO, .long), (cS3, .object "FuzzyFens$Entry"), (cG, .int), (cS2, .object "FuzzyFens$Entry")]) [17, 4, 0, 3] rfl) hNw (qZ_at hZ hS (fun q h => hF q h)) hXt)⟩ rfl rfl hl.1 rfl (lv_room (Nat.le_of_ble_eq_true rfl)) dL_law_955 ⟨by show _ ≤ 601024; omega, by show _ ≤ 7293034; omega⟩) hS (fun q _ h => hF q h) hF (fun rv8 u_5 t_4 H_2 locs_3 ht hvm hrv8 hB hz1 hk1 hS => ?_)
  obtain ⟨z4_6, fr2_7, fc2_8, pt2_9, fo8⟩ := u_5
  dsimp only at hrv8 hB
  replace hB : va_P D vwCl ([(out, .inl (cO, 1, .inr (.inl fo8))), (s3, .inr (4, [.ref a3, .int z4_6])), (a3, .inl (cS3, 40, .inr (.inr (.inr (.inr fr2_7))))), (ce, .inl (cG, 121, .inl fc2_8))] ++ (EW ea wa (fun k => (pa k).map ea) nm dp ct ic lf pt2_9 n ++ WW wa wd n)) H_2 := by rw [← ht]; exact hB
  obtain ⟨hP, hD⟩ := q_joinT (X := [(xo, .inr (8, [.ref gg, .ref tr, .ref ti, .ref s2, .ref s3, .ref n2])), (gg, .inr (1, [.ref gr])), (gr, .inr (2, [.ref ce])), (ce, .inl (cG, 121, .inl fc)), (tr, .inr (5, [.ref sh])), (sh, .inr (4, [.ref ar, .int (nI n)])), (ar, .inl (cS, 40, .inr (.inr (.inr (.inr f))))), (ti, .inr (6, [.ref n1])), (n1, .inr (3, [.ref l1, .int z1])), (l1, .inl (cJ1, 401, .inr (.inl fN))), (s2, .inr (4, [.ref a2, .int (nI m)])), (a2, .inl (cS2, 40, .inr (.inr (.inr (.inr fk))))), (s3, .inr (4, [.ref a3, .int z3])), (a3, .inl (cS3, 40, .inr (.inr (.inr (.inr fr))))), (n2, .inr (3, [.ref l2, .int z2])), (l2, .inl (cJ2, 56, .inr (.inl fs))), (mo, .inr (9, [.int th, .int (nI n), .ref mw, .ref mct, .ref mp, .ref mnm, .ref m1, .ref m2, .int om, .int tm, .ref mt, .ref mk, .ref mr, .ref ml, .ref mq])), (mw, .inl (k1, 40, .inr (.inl (fun k9 => lN (wd k9))))), (mct, .inl (k2, 40, .inl (fun k9 => nI (ct k9)))), (mp, .inl (k3, 40, .inl (fun k9 => pin (pa k9)))), (mnm, .inl (k4, 40, .inl (fun k9 => nI (nm k9)))), (m1, .inl (k5, 11, .inl u1)), (m2, .inl (k6, 11, .inl u2)), (mt, .inl (k7, 121, .inl u3)), (mk, .inl (k8, 27, .inl (fun k9 => nI (kyf k9)))), (mr, .inl (k9c, 401, .inr (.inl u4))), (ml, .inl (k10, 64, .inr (.inl u5))), (mq, .inl (k11, 64, .inr (.inl u6))), (out, .inl (cO, 1, .inr (.inl fo)))]) (T := (EW ea wa (fun k => (pa k).map ea) nm dp ct ic lf pt n ++ WW wa wd n)) (cx := [(out, .inl (cO, 1, .inr (.inl fo))), (s3, .inr (4, [.ref a3, .int z3])), (a3, .inl (cS3, 40, .inr (.inr (.inr (.inr fr))))), (ce, .inl (cG, 121, .inl fc))]) (cx' := [(out, .inl (cO, 1, .inr (.inl fo8))), (s3, .inr (4, [.ref a3, .int z4_6])), (a3, .inl (cS3, 40, .inr (.inr (.inr (.inr fr2_7))))), (ce, .inl (cG, 121, .inl fc2_8))]) (T' := (EW ea wa (fun k => (pa k).map ea) nm dp ct ic lf pt2_9 n ++ WW wa wd n)) (X' := [(xo, .inr (8, [.ref gg, .ref tr, .ref ti, .ref s2, .ref s3, .ref n2])), (gg, .inr (1, [.ref gr])), (gr, .inr (2, [.ref ce])), (ce, .inl (cG, 121, .inl fc2_8)), (tr, .inr (5, [.ref sh])), (sh, .inr (4, [.ref ar, .int (nI n)])), (ar, .inl (cS, 40, .inr (.inr (.inr (.inr f))))), (ti, .inr (6, [.ref n1])), (n1, .inr (3, [.ref l1, .int z1])), (l1, .inl (cJ1, 401, .inr (.inl fN))), (s2, .inr (4, [.ref a2, .int (nI m)])), (a2, .inl (cS2, 40, .inr (.inr (.inr (.inr fk))))), (s3, .inr (4, [.ref a3, .int z4_6])), (a3, .inl (cS3, 40, .inr (.inr (.inr (.inr fr2_7))))), (n2, .inr (3, [.ref l2, .int z2])), (l2, .inl (cJ2, 56, .inr (.inl fs))), (mo, .inr (9, [.int th, .int (nI n), .ref mw, .ref mct, .ref mp, .ref mnm, .ref m1, .ref m2, .int om, .int tm, .ref mt, .ref mk, .ref mr, .ref ml, .ref mq])), (mw, .inl (k1, 40, .inr (.inl (fun k9 => lN (wd k9))))), (mct, .inl (k2, 40, .inl (fun k9 => nI (ct k9)))), (mp, .inl (k3, 40, .inl (fun k9 => pin (pa k9)))), (mnm, .inl (k4, 40, .inl (fun k9 => nI (nm k9)))), (m1, .inl (k5, 11, .inl u1)), (m2, .inl (k6, 11, .inl u2)), (mt, .inl (k7, 121, .inl u3)), (mk, .inl (k8, 27, .inl (fun k9 => nI (kyf k9)))), (mr, .inl (k9c, 401, .inr (.inl u4))), (ml, .inl (k10, 64, .inr (.inl u5))), (mq, .inl (k11, 64, .inr (.inl u6))), (out, .inl (cO, 1, .inr (.inl fo8)))]) [28, 12, 13, 3] hP hD rfl rfl (by simp only [List.map_append, EW_fst, WW_fst]) hk1 hB rfl
  have hR := q_ro hR0 hna hS
  have hF8 := hrv8
  refine lv_istore (lv' := [(5, .int rv8), (0, .ref b), (1, .ref xo), (2, .ref mo), (3, .ref out), (4, .int (nI i))]) hx hb dL_law_958 hl (by decide) rfl (fun ls hl => ?_)
  refine lv_aload_n hx hb dL_law_960 rfl (lv_at hl 3 rfl) ?_
  refine lv_aload_n hx hb dL_law_961 rfl (lv_at hl 1 rfl) ?_
  refine lv_iload hx hb dL_law_962 (lv_at hl 5 rfl) ?_
  refine lv_iconst (v := nI 1) hx hb dL_law_964 (by decide) ?_
  refine q_iadd (d := i + 1) hx hb dL_law_965 (by omega) ?_
  refine va_sld hx hb hX hbl hbA hS (vp_in_nI (n := i + 1) (N := L) (by omega) (by omega)) dL_law_966 ?_
  rw [nI_clamp (n := i + 1) (by omega)]
  refine lv_i2l hx hb dL_law_967 rfl ?_
  refine lv_bipush (v := nI 32) hx hb dL_law_968 (by decide) ?_
  refine lv_lshl hx hb dL_law_970 rfl ?_
  refine lv_aload_n hx hb dL_law_971 rfl (lv_at hl 1 rfl) ?_
  refine lv_iload hx hb dL_law_972 (lv_at hl 5 rfl) ?_
  refine lv_iconst (v := nI 2) hx hb dL_law_974 (by decide) ?_
  refine q_iadd (d := i + 2) hx hb dL_law_975 (by omega) ?_
  refine va_sld hx hb hX hbl hbA hS (vp_in_nI (n := i + 2) (N := L) (by omega) (by omega)) dL_law_976 ?_
  rw [nI_clamp (n := i + 2) (by omega)]
  refine lv_i2l hx hb dL_law_977 rfl ?_
  refine lv_ldc2 (v := 4294967295) hx hb hown (hts (.constantLong RL 80 (4294967295)) (List.mem_of_getElem? (i := 7) rfl)) dL_law_978 ?_
  refine q_cvl (show (4294967295 : Int64) = lN 4294967295 by decide) ?_
  refine lv_land hx hb dL_law_981 ?_
  refine lv_lor hx hb dL_law_982 ?_
  refine q_cvl hqa ?_
  refine lv_aload_n hx hb dL_law_983 rfl (lv_at hl 1 rfl) ?_
  refine lv_iload hx hb dL_law_984 (lv_at hl 5 rfl) ?_
  refine lv_iconst (v := nI 3) hx hb dL_law_986 (by decide) ?_
  refine q_iadd (d := i + 3) hx hb dL_law_987 (by omega) ?_
  refine va_sld hx hb hX hbl hbA hS (vp_in_nI (n := i + 3) (N := L) (by omega) (by omega)) dL_law_988 ?_
  rw [nI_clamp (n := i + 3) (by omega)]
  refine lv_aload_n hx hb dL_law_989 rfl (lv_at hl 1 rfl) ?_
  refine lv_iload hx hb dL_law_990 (lv_at hl 5 rfl) ?_
  refine lv_iconst (v := nI 4) hx hb dL_law_992 (by decide) ?_
  refine q_iadd (d := i + 4) hx hb dL_law_993 (by omega) ?_
  refine va_sld hx hb hX hbl hbA hS (vp_in_nI (n := i + 4) (N := L) (by omega) (by omega)) dL_law_994 ?_
  rw [nI_clamp (n := i + 4) (by omega)]
  have hF := va_free (wc := [(mo, .inr (9, [.int th, .int (nI n), .ref mw, .ref mct, .ref mp, .ref mnm, .ref m1, .ref m2, .int om, .int tm, .ref mt, .ref mk, .ref mr, .ref ml, .ref mq])), (m1, .inl (k5, 11, .inl u1)), (m2, .inl (k6, 11, .inl u2)), (mt, .inl (k7, 121, .inl u3))]) hD hS hA [16, 21, 22, 23] rfl
  refine va_calll (va_runV (As := [.long (lN a), .int (xs (i + 3)), .int (xs (i + 4))]) (rest := []) ⟨hx, hb, hml, hown, hts⟩ (c_X10_correction (l := l) (D := D) (mo := mo) (mw := mw) (mct := mct) (mp := mp) (mnm := mnm) (m1 := m1) (m2 := m2) (mt := mt) (mk := mk) (mr := mr) (ml := ml) (mq := mq) (k1 := k1) (k2 := k2) (k5 := k5) (k6 := k6) (k7 := k7) (k8 := k8) (th := th) (n := n) (om := om) (tm := tm) (f1 := u1) (f2 := u2) (ft := u3) (wd := wd) (ct := ct) (a := a) (x9 := xs (i + 3)) (y9 := xs (i + 4)) (sz := H_2.size) (hnd := (q_nds (q_ndl (q_ndsw (q_ndg (l1 := [xo, gg, gr, ce, tr, sh, ar, ti, n1, l1, s2, a2, s3, a3, n2, l2, mo, mw, mct, mp, mnm, m1, m2, mt, mk, mr, ml, mq, out] ++ (rg ea n ++ rg wa n)) (l2 := []) hD hnR hna (by rw [List.map_append, List.map_append, EW_fst, WW_fst]; rfl) rfl))) [16, 21, 22, 23, 17, 18, 24] rfl rfl)) (ha := by omega) (hn40 := hn40) (hgw := hg) (hcb := hcb)) (cwV 3 hts gL_law_X10_correction rfl rfl rfl (by decide +kernel) ⟨Nat.le_of_ble_eq_true rfl, Nat.le_of_ble_eq_true rfl⟩) ⟨qW_blind, (va_recv hK hP (ci := 9) (q0 := 16) rfl rfl), (qW_of (hP.sub (ws' := [(mw, .inl (k1, 40, .inr (.inl (fun k9 => lN (wd k9))))), (mct, .inl (k2, 40, .inl (fun k9 => nI (ct k9)))), (mk, .inl (k8, 27, .inl (fun k9 => nI (kyf k9))))]) [17, 18, 24] rfl) (hP.sub (ws' := [(mo, .inr (9, [.int th, .int (nI n), .ref mw, .ref mct, .ref mp, .ref mnm, .ref m1, .ref m2, .int om, .int tm, .ref mt, .ref mk, .ref mr, .ref ml, .ref mq])), (m1, .inl (k5, 11, .inl u1)), (m2, .inl (k6, 11, .inl u2)), (mt, .inl (k7, 121, .inl u3))]) [16, 21, 22, 23] rfl) (hK.sub (tys' := [(k5, .int), (k6, .int), (k7, .int), (k1, .long), (k2, .int), (k8, .int)]) [10, 11, 12, 6, 7, 13] rfl) hNw)⟩ rfl rfl hl.1 rfl (lv_room (Nat.le_of_ble_eq_true rfl)) dL_law_995 ⟨by show _ ≤ 601024; omega, by show _ ≤ 7293034; omega⟩) hS (fun q _ h => hF q h) hF (fun rb8 u_14 t_13 H_11 locs_12 ht hvm hrb8 hB hz1 hk1 hS => ?_)
  obtain ⟨t8, o2_15, q2_16, g1_17, g2_18, g3_19⟩ := u_14
  dsimp only at hrb8 hB
  replace hB : va_P D vwCl [(mo, .inr (9, [.int t8, .int (nI n), .ref mw, .ref mct, .ref mp, .ref mnm, .ref m1, .ref m2, .int o2_15, .int q2_16, .ref mt, .ref mk, .ref mr, .ref ml, .ref mq])), (m1, .inl (k5, 11, .inl g1_17)), (m2, .inl (k6, 11, .inl g2_18)), (mt, .inl (k7, 121, .inl g3_19))] H_11 := by rw [← ht]; exact hB
  obtain ⟨hP, hD⟩ := q_join (wc := [(mo, .inr (9, [.int th, .int (nI n), .ref mw, .ref mct, .ref mp, .ref mnm, .ref m1, .ref m2, .int om, .int tm, .ref mt, .ref mk, .ref mr, .ref ml, .ref mq])), (m1, .inl (k5, 11, .inl u1)), (m2, .inl (k6, 11, .inl u2)), (mt, .inl (k7, 121, .inl u3))]) (w1 := [(mo, .inr (9, [.int t8, .int (nI n), .ref mw, .ref mct, .ref mp, .ref mnm, .ref m1, .ref m2, .int o2_15, .int q2_16, .ref mt, .ref mk, .ref mr, .ref ml, .ref mq])), (m1, .inl (k5, 11, .inl g1_17)), (m2, .inl (k6, 11, .inl g2_18)), (mt, .inl (k7, 121, .inl g3_19))]) (ws' := [(xo, .inr (8, [.ref gg, .ref tr, .ref ti, .ref s2, .ref s3, .ref n2])), (gg, .inr (1, [.ref gr])), (gr, .inr (2, [.ref ce])), (ce, .inl (cG, 121, .inl fc2_8)), (tr, .inr (5, [.ref sh])), (sh, .inr (4, [.ref ar, .int (nI n)])), (ar, .inl (cS, 40, .inr (.inr (.inr (.inr f))))), (ti, .inr (6, [.ref n1])), (n1, .inr (3, [.ref l1, .int z1])), (l1, .inl (cJ1, 401, .inr (.inl fN))), (s2, .inr (4, [.ref a2, .int (nI m)])), (a2, .inl (cS2, 40, .inr (.inr (.inr (.inr fk))))), (s3, .inr (4, [.ref a3, .int z4_6])), (a3, .inl (cS3, 40, .inr (.inr (.inr (.inr fr2_7))))), (n2, .inr (3, [.ref l2, .int z2])), (l2, .inl (cJ2, 56, .inr (.inl fs))), (mo, .inr (9, [.int t8, .int (nI n), .ref mw, .ref mct, .ref mp, .ref mnm, .ref m1, .ref m2, .int o2_15, .int q2_16, .ref mt, .ref mk, .ref mr, .ref ml, .ref mq])), (mw, .inl (k1, 40, .inr (.inl (fun k9 => lN (wd k9))))), (mct, .inl (k2, 40, .inl (fun k9 => nI (ct k9)))), (mp, .inl (k3, 40, .inl (fun k9 => pin (pa k9)))), (mnm, .inl (k4, 40, .inl (fun k9 => nI (nm k9)))), (m1, .inl (k5, 11, .inl g1_17)), (m2, .inl (k6, 11, .inl g2_18)), (mt, .inl (k7, 121, .inl g3_19)), (mk, .inl (k8, 27, .inl (fun k9 => nI (kyf k9)))), (mr, .inl (k9c, 401, .inr (.inl u4))), (ml, .inl (k10, 64, .inr (.inl u5))), (mq, .inl (k11, 64, .inr (.inl u6))), (out, .inl (cO, 1, .inr (.inl fo8)))] ++ (EW ea wa (fun k => (pa k).map ea) nm dp ct ic lf pt2_9 n ++ WW wa wd n)) [16, 21, 22, 23] hP hD rfl rfl hk1 hB rfl
  have hR := q_ro hR0 hna hS
  obtain ⟨g80, g81⟩ := hrb8
  have hE : t8 = rv8 ∧ (rv8 = 0 → fo8 0 = rb8) := q_hv2 hF8 g80 (by rw [corr_cnt hKN hSR]) (fun h9 h8 => by rw [g81 ⟨h9, by rw [corr_cnt hKN hSR]; exact h8⟩, corr_at hKN hSR (kz_lt (by have := rkc_le wd ct ki a (kz (xs (i + 3))) m; omega) h8.1 h8.2)])
  refine lv_lstore (lv' := [(6, .long rb8), (5, .int rv8), (0, .ref b), (1, .ref xo), (2, .ref mo), (3, .ref out), (4, .int (nI i))]) hx hb dL_law_998 hl (by decide) rfl (fun ls hl => ?_)
  refine lv_aload_n hx hb dL_law_1000 rfl (lv_at hl 4 rfl) ?_
  refine vp_callSi (W.runV (As := []) (rest := []) ⟨hx, hb, hml, hown, hts⟩ (c_X10_thrown (l := l) (D := D) (mo := mo) (mw := mw) (mct := mct) (mp := mp) (mnm := mnm) (m1 := m1) (m2 := m2) (mt := mt) (mk := mk) (mr := mr) (ml := ml) (mq := mq) (th := t8) (n := n) (om := o2_15) (tm := q2_16) ) (cwV 0 hts gL_law_X10_thrown rfl rfl rfl (by decide +kernel) ⟨Nat.le_of_ble_eq_true rfl, Nat.le_of_ble_eq_true rfl⟩) ⟨qP_blind, (va_recv hK hP (ci := 9) (q0 := 16) rfl rfl), (qP_of (hP.sub (ws' := [(mo, .inr (9, [.int t8, .int (nI n), .ref mw, .ref mct, .ref mp, .ref mnm, .ref m1, .ref m2, .int o2_15, .int q2_16, .ref mt, .ref mk, .ref mr, .ref ml, .ref mq]))]) [16] rfl) (hK.sub (tys' := []) [] rfl) hNw)⟩ rfl rfl hl.1 rfl (lv_room (Nat.le_of_ble_eq_true rfl)) dL_law_1001 ⟨by show _ ≤ 601024; omega, by show _ ≤ 7293034; omega⟩) (fun r_20 hr_20 => ?_)
  have hr_20 := hr_20.symm
  subst hr_20
  refine lv_iload hx hb dL_law_1004 (lv_at hl 1 rfl) ?_
  refine lv_icmp_eq (tgt := 1011) hx hb dL_law_1006 (by decide) (fun c_1006 => ?_) (fun c_1006 => False.elim (by exact c_1006 hE.1))
  refine lv_iload hx hb dL_law_1011 (lv_at hl 1 rfl) ?_
  refine lv_if_ne (tgt := 1027) hx hb dL_law_1013 (by decide) (fun c_1013 => ?_) (fun c_1013 => ?_)
  · skip
    refine lv_goto (tgt := 1919) hx hb dL_law_1027 (by decide) ?_
    exact K _ _ _ _ _ ⟨n, m, wd, ct, pa, nm, dp, ki, ea, wa, ic, lf, pt2_9, f, fk, fc2_8, z1, fN, z4_6, fr2_7, z2, fs, t8, o2_15, q2_16, g1_17, g2_18, g3_19, u4, u5, u6, fo8, hI, hfe, hfk, hP, hD, hS⟩ (lv_sub hl [2, 3, 4, 5, 6] rfl) (by omega) (by omega)
  · skip
    refine lv_aload_n hx hb dL_law_1016 rfl (lv_at hl 5 rfl) ?_
    refine lv_iconst (v := nI 0) hx hb dL_law_1017 (by decide) ?_
    refine va_lald (D := D) hx hb hK hP 28 17 rfl rfl (vp_in_nI (n := 0) (N := 1) (by omega) (by decide)) dL_law_1018 ?_
    rw [nI_clamp (n := 0) (by omega)]
    refine lv_lload hx hb dL_law_1019 (lv_at hl 0 rfl) ?_
    refine W.lcmp hx hb dL_law_1021 ?_
    refine q_lr_eq (tgt := 1027) hx hb dL_law_1022 (by decide) (fun c_1022 => ?_) (fun c_1022 => False.elim (by exact c_1022 (hE.2 c_1013)))
    refine lv_goto (tgt := 1919) hx hb dL_law_1027 (by decide) ?_
    exact K _ _ _ _ _ ⟨n, m, wd, ct, pa, nm, dp, ki, ea, wa, ic, lf, pt2_9, f, fk, fc2_8, z1, fN, z4_6, fr2_7, z2, fs, t8, o2_15, q2_16, g1_17, g2_18, g3_19, u4, u5, u6, fo8, hI, hfe, hfk, hP, hD, hS⟩ (lv_sub hl [2, 3, 4, 5, 6] rfl) (by omega) (by omega)

set_option maxHeartbeats 4000000 in
set_option maxRecDepth 100000 in
/-- nearest -/
theorem lw_c1030 {p : Program} {l : Launch} {e : Env} {s : State} {mi9 : MethodId} {belowM : List Frame} {methM : Method} {cM : Code} {Q : State → Prop} {D : va_G} {A : Nat → Prop} {b L i : Nat} {xs : Nat → Int32} {xo gg gr ce tr sh ar ti n1 l1 s2 a2 s3 a3 n2 l2 mo mw mct mp mnm m1 m2 mt mk mr ml mq out : Nat} {cS cS2 cG cJ1 cS3 cJ2 k1 k2 k3 k4 k5 k6 k7 k8 k9c k10 k11 cO : ClassId} {H : Heap} {locs : List Loc} {ls : Array Slot} {cells slots : Nat} (hE : LWE p l s mi9 cM D A b L xs [(cG, .int), (cS, .object "FuzzyFens$Entry"), (cJ1, .long), (cS2, .object "FuzzyFens$Entry"), (cS3, .object "FuzzyFens$Entry"), (cJ2, .long), (k1, .long), (k2, .int), (k3, .int), (k4, .int), (k5, .int), (k6, .int), (k7, .int), (k8, .int), (k9c, .long), (k10, .long), (k11, .long), (cO, .long)]) (hi : i + 5 ≤ L) (hW : LWI D s A xo gg gr ce tr sh ar ti n1 l1 s2 a2 s3 a3 n2 l2 mo mw mct mp mnm m1 m2 mt mk mr ml mq out cS cS2 cG cJ1 cS3 cJ2 k1 k2 k3 k4 k5 k6 k7 k8 k9c k10 k11 cO H locs) (hl : lv_has ls 8 [(0, .ref b), (1, .ref xo), (2, .ref mo), (3, .ref out), (4, .int (nI i))]) (hc9 : cells + 8 ≤ 601024) (hs9 : slots + 64 ≤ 7293034) (K : LWK p l e s mi9 belowM methM cM Q D A b i xo gg gr ce tr sh ar ti n1 l1 s2 a2 s3 a3 n2 l2 mo mw mct mp mnm m1 m2 mt mk mr ml mq out cS cS2 cG cJ1 cS3 cJ2 k1 k2 k3 k4 k5 k6 k7 k8 k9c k10 k11 cO cells slots) : W p l e room_1 s mi9 #[Value.ref b] belowM methM cM H locs cells slots Q (F0 mi9 1030 ls []) := by
  obtain ⟨hx, hb, hml, hown, hts, hX, hbl, hbA, hA, hK, hNw, hZ, hXt, hst, hL⟩ := hE
  obtain ⟨n, m, wd, ct, pa, nm, dp, ki, ea, wa, ic, lf, pt, f, fk, fc, z1, fN, z3, fr, z2, fs, th, om, tm, u1, u2, u3, u4, u5, u6, fo, hI, hfe, hfk, hP, hD, hS⟩ := hW
  have hI0 := hI
  obtain ⟨hn40, hg, hwi, hct, hpn, hun, hnm, hnz, hdp, hKN, hSR⟩ := hI0
  have hmn := kn_le hKN hSR
  have hm : m ≤ 40 := Nat.le_trans hmn hn40
  have hki : ∀ j, j < m → ki j < n := fun j h => (hKN.1 j h).1
  have hcb : ∀ k, k < n → ct k < 2 ^ 31 := fun k h => by have := hct k h; omega
  have hnb : ∀ k, k < n → nm k < 2 ^ 31 := fun k h => by have := hnm k h; omega
  have hmz : ∀ i, i < n → ct i = 0 → m < n := fun i h h0 => kn_lt hKN hSR h h0
  have hkinj := srt_inj hSR
  have hkn := hKN.2
  have heai := q_poolinj hD
  have hR0 : va_P D vwCl [] s.heap := q_Pof (fun _ h => absurd h List.not_mem_nil)
  have hR := hR0
  have hna : ∀ q ∈ ([] : va_W), ¬ A q.1 := fun q h => absurd h List.not_mem_nil
  have hnR : (([] : va_W).map (·.1)).Nodup := List.nodup_nil
  refine lv_aload_n hx hb dL_law_1030 rfl (lv_at hl 1 rfl) ?_
  refine lv_aload_n hx hb dL_law_1031 rfl (lv_at hl 0 rfl) ?_
  refine lv_iload hx hb dL_law_1032 (lv_at hl 4 rfl) ?_
  refine lv_iconst (v := nI 1) hx hb dL_law_1034 (by decide) ?_
  refine q_iadd (d := i + 1) hx hb dL_law_1035 (by omega) ?_
  refine va_sld hx hb hX hbl hbA hS (vp_in_nI (n := i + 1) (N := L) (by omega) (by omega)) dL_law_1036 ?_
  rw [nI_clamp (n := i + 1) (by omega)]
  refine lv_i2l hx hb dL_law_1037 rfl ?_
  refine lv_bipush (v := nI 32) hx hb dL_law_1038 (by decide) ?_
  refine lv_lshl hx hb dL_law_1040 rfl ?_
  refine lv_aload_n hx hb dL_law_1041 rfl (lv_at hl 0 rfl) ?_
  refine lv_iload hx hb dL_law_1042 (lv_at hl 4 rfl) ?_
  refine lv_iconst (v := nI 2) hx hb dL_law_1044 (by decide) ?_
  refine q_iadd (d := i + 2) hx hb dL_law_1045 (by omega) ?_
  refine va_sld hx hb hX hbl hbA hS (vp_in_nI (n := i + 2) (N := L) (by omega) (by omega)) dL_law_1046 ?_
  rw [nI_clamp (n := i + 2) (by omega)]
  refine lv_i2l hx hb dL_law_1047 rfl ?_
  refine lv_ldc2 (v := 4294967295) hx hb hown (hts (.constantLong RL 80 (4294967295)) (List.mem_of_getElem? (i := 7) rfl)) dL_law_1048 ?_
  refine q_cvl (show (4294967295 : Int64) = lN 4294967295 by decide) ?_
  refine lv_land hx hb dL_law_1051 ?_
  refine lv_lor hx hb dL_law_1052 ?_
  obtain ⟨a, ha, hqa⟩ := q_lN ((((xs (i + 1)).toInt64) <<< ((nI 32).toInt64 &&& 63)) ||| (((xs (i + 2)).toInt64) &&& (lN 4294967295)))
  refine q_cvl hqa ?_
  refine lv_aload_n hx hb dL_law_1053 rfl (lv_at hl 3 rfl) ?_
  have hF := va_free (wc := [(out, .inl (cO, 1, .inr (.inl fo))), (ce, .inl (cG, 121, .inl fc))]) hD hS hA [28, 3] rfl
  refine va_calli (vx_runSW (As := [.ref xo, .long (lN a), .ref out]) (rest := []) ⟨hx, hb, hml, hown, hts⟩ (c_L_nearest (l := l) (D := D) (xo := xo) (gg := gg) (gr := gr) (ce := ce) (tr := tr) (sh := sh) (ar := ar) (ti := ti) (n1 := n1) (l1 := l1) (s2 := s2) (a2 := a2) (s3 := s3) (a3 := a3) (n2 := n2) (l2 := l2) (cS2 := cS2) (fk := fk) (m := m) (ki := ki) (ea := ea) (wa := wa) (pf := (fun k => (pa k).map ea)) (cn := nm) (dp := dp) (oc := ct) (ic := ic) (lf := lf) (pt := pt) (wd := wd) (n := n) (cG := cG) (fc := fc) (a := a) (out := out) (cO := cO) (fo := fo) (sz := H.size) (hnd := (q_ndt (q_ndsw (q_ndg (l1 := [xo, gg, gr, ce, tr, sh, ar, ti, n1, l1, s2, a2, s3, a3, n2, l2, mo, mw, mct, mp, mnm, m1, m2, mt, mk, mr, ml, mq, out] ++ (rg ea n ++ rg wa n)) (l2 := []) hD hnR hna (by rw [List.map_append, List.map_append, EW_fst, WW_fst]; rfl) rfl)) [28, 3, 0, 1, 2, 10, 11] rfl rfl)) (hst := hst) (ha := by omega) (hm := hm) (hf := hfk) (hki := hki) (hg := hg)) (vx_cwSW 3 hts gL_law_L_nearest rfl rfl rfl (by decide +kernel) ⟨Nat.le_of_ble_eq_true rfl, Nat.le_of_ble_eq_true rfl⟩) ⟨qWx_blind, (qWx_of (va_P.app (hP.sub (ws' := [(xo, .inr (8, [.ref gg, .ref tr, .ref ti, .ref s2, .ref s3, .ref n2])), (gg, .inr (1, [.ref gr])), (gr, .inr (2, [.ref ce])), (s2, .inr (4, [.ref a2, .int (nI m)])), (a2, .inl (cS2, 40, .inr (.inr (.inr (.inr fk)))))]) [0, 1, 2, 10, 11] rfl) (q_right hP)) (hP.sub (ws' := [(out, .inl (cO, 1, .inr (.inl fo))), (ce, .inl (cG, 121, .inl fc))]) [28, 3] rfl) (hK.sub (tys' := [(cO, .long), (cG, .int), (cS2, .object "FuzzyFens$Entry")]) [17, 0, 3] rfl) hNw (qZ_at hZ hS (fun q h => hF q h)) hXt)⟩ rfl rfl hl.1 rfl (lv_room (Nat.le_of_ble_eq_true rfl)) dL_law_1054 ⟨by show _ ≤ 601024; omega, by show _ ≤ 7293034; omega⟩) hS (fun q _ h => hF q h) hF (fun rv8 u_5 t_4 H_2 locs_3 ht hvm hrv8 hB hz1 hk1 hS => ?_)
  obtain ⟨fc2_6, fo8⟩ := u_5
  dsimp only at hrv8 hB
  replace hB : va_P D vwCl [(out, .inl (cO, 1, .inr (.inl fo8))), (ce, .inl (cG, 121, .inl fc2_6))] H_2 := by rw [← ht]; exact hB
  obtain ⟨hP, hD⟩ := q_join (wc := [(out, .inl (cO, 1, .inr (.inl fo))), (ce, .inl (cG, 121, .inl fc))]) (w1 := [(out, .inl (cO, 1, .inr (.inl fo8))), (ce, .inl (cG, 121, .inl fc2_6))]) (ws' := [(xo, .inr (8, [.ref gg, .ref tr, .ref ti, .ref s2, .ref s3, .ref n2])), (gg, .inr (1, [.ref gr])), (gr, .inr (2, [.ref ce])), (ce, .inl (cG, 121, .inl fc2_6)), (tr, .inr (5, [.ref sh])), (sh, .inr (4, [.ref ar, .int (nI n)])), (ar, .inl (cS, 40, .inr (.inr (.inr (.inr f))))), (ti, .inr (6, [.ref n1])), (n1, .inr (3, [.ref l1, .int z1])), (l1, .inl (cJ1, 401, .inr (.inl fN))), (s2, .inr (4, [.ref a2, .int (nI m)])), (a2, .inl (cS2, 40, .inr (.inr (.inr (.inr fk))))), (s3, .inr (4, [.ref a3, .int z3])), (a3, .inl (cS3, 40, .inr (.inr (.inr (.inr fr))))), (n2, .inr (3, [.ref l2, .int z2])), (l2, .inl (cJ2, 56, .inr (.inl fs))), (mo, .inr (9, [.int th, .int (nI n), .ref mw, .ref mct, .ref mp, .ref mnm, .ref m1, .ref m2, .int om, .int tm, .ref mt, .ref mk, .ref mr, .ref ml, .ref mq])), (mw, .inl (k1, 40, .inr (.inl (fun k9 => lN (wd k9))))), (mct, .inl (k2, 40, .inl (fun k9 => nI (ct k9)))), (mp, .inl (k3, 40, .inl (fun k9 => pin (pa k9)))), (mnm, .inl (k4, 40, .inl (fun k9 => nI (nm k9)))), (m1, .inl (k5, 11, .inl u1)), (m2, .inl (k6, 11, .inl u2)), (mt, .inl (k7, 121, .inl u3)), (mk, .inl (k8, 27, .inl (fun k9 => nI (kyf k9)))), (mr, .inl (k9c, 401, .inr (.inl u4))), (ml, .inl (k10, 64, .inr (.inl u5))), (mq, .inl (k11, 64, .inr (.inl u6))), (out, .inl (cO, 1, .inr (.inl fo8)))] ++ (EW ea wa (fun k => (pa k).map ea) nm dp ct ic lf pt n ++ WW wa wd n)) [28, 3] hP hD rfl rfl hk1 hB rfl
  have hR := q_ro hR0 hna hS
  have hF8 := hrv8
  refine lv_istore (lv' := [(5, .int rv8), (0, .ref b), (1, .ref xo), (2, .ref mo), (3, .ref out), (4, .int (nI i))]) hx hb dL_law_1057 hl (by decide) rfl (fun ls hl => ?_)
  refine lv_aload_n hx hb dL_law_1059 rfl (lv_at hl 3 rfl) ?_
  refine lv_aload_n hx hb dL_law_1060 rfl (lv_at hl 1 rfl) ?_
  refine lv_iload hx hb dL_law_1061 (lv_at hl 5 rfl) ?_
  refine lv_iconst (v := nI 1) hx hb dL_law_1063 (by decide) ?_
  refine q_iadd (d := i + 1) hx hb dL_law_1064 (by omega) ?_
  refine va_sld hx hb hX hbl hbA hS (vp_in_nI (n := i + 1) (N := L) (by omega) (by omega)) dL_law_1065 ?_
  rw [nI_clamp (n := i + 1) (by omega)]
  refine lv_i2l hx hb dL_law_1066 rfl ?_
  refine lv_bipush (v := nI 32) hx hb dL_law_1067 (by decide) ?_
  refine lv_lshl hx hb dL_law_1069 rfl ?_
  refine lv_aload_n hx hb dL_law_1070 rfl (lv_at hl 1 rfl) ?_
  refine lv_iload hx hb dL_law_1071 (lv_at hl 5 rfl) ?_
  refine lv_iconst (v := nI 2) hx hb dL_law_1073 (by decide) ?_
  refine q_iadd (d := i + 2) hx hb dL_law_1074 (by omega) ?_
  refine va_sld hx hb hX hbl hbA hS (vp_in_nI (n := i + 2) (N := L) (by omega) (by omega)) dL_law_1075 ?_
  rw [nI_clamp (n := i + 2) (by omega)]
  refine lv_i2l hx hb dL_law_1076 rfl ?_
  refine lv_ldc2 (v := 4294967295) hx hb hown (hts (.constantLong RL 80 (4294967295)) (List.mem_of_getElem? (i := 7) rfl)) dL_law_1077 ?_
  refine q_cvl (show (4294967295 : Int64) = lN 4294967295 by decide) ?_
  refine lv_land hx hb dL_law_1080 ?_
  refine lv_lor hx hb dL_law_1081 ?_
  refine q_cvl hqa ?_
  have hF := va_free (wc := [(mo, .inr (9, [.int th, .int (nI n), .ref mw, .ref mct, .ref mp, .ref mnm, .ref m1, .ref m2, .int om, .int tm, .ref mt, .ref mk, .ref mr, .ref ml, .ref mq])), (m1, .inl (k5, 11, .inl u1)), (m2, .inl (k6, 11, .inl u2)), (mt, .inl (k7, 121, .inl u3))]) hD hS hA [16, 21, 22, 23] rfl
  refine va_calli (va_runV (As := [.long (lN a)]) (rest := []) ⟨hx, hb, hml, hown, hts⟩ (c_X10_nearest (l := l) (D := D) (mo := mo) (mw := mw) (mct := mct) (mp := mp) (mnm := mnm) (m1 := m1) (m2 := m2) (mt := mt) (mk := mk) (mr := mr) (ml := ml) (mq := mq) (k1 := k1) (k2 := k2) (k5 := k5) (k6 := k6) (k7 := k7) (th := th) (n := n) (om := om) (tm := tm) (f1 := u1) (f2 := u2) (ft := u3) (wd := wd) (ct := ct) (a := a) (sz := H_2.size) (hnd := (q_nds (q_ndl (q_ndsw (q_ndg (l1 := [xo, gg, gr, ce, tr, sh, ar, ti, n1, l1, s2, a2, s3, a3, n2, l2, mo, mw, mct, mp, mnm, m1, m2, mt, mk, mr, ml, mq, out] ++ (rg ea n ++ rg wa n)) (l2 := []) hD hnR hna (by rw [List.map_append, List.map_append, EW_fst, WW_fst]; rfl) rfl))) [16, 21, 22, 23, 17, 18] rfl rfl)) (ha := by omega) (hn40 := hn40) (hgw := hg) (hcb := hcb)) (cwV 1 hts gL_law_X10_nearest rfl rfl rfl (by decide +kernel) ⟨Nat.le_of_ble_eq_true rfl, Nat.le_of_ble_eq_true rfl⟩) ⟨qW_blind, (va_recv hK hP (ci := 9) (q0 := 16) rfl rfl), (qW_of (hP.sub (ws' := [(mw, .inl (k1, 40, .inr (.inl (fun k9 => lN (wd k9))))), (mct, .inl (k2, 40, .inl (fun k9 => nI (ct k9))))]) [17, 18] rfl) (hP.sub (ws' := [(mo, .inr (9, [.int th, .int (nI n), .ref mw, .ref mct, .ref mp, .ref mnm, .ref m1, .ref m2, .int om, .int tm, .ref mt, .ref mk, .ref mr, .ref ml, .ref mq])), (m1, .inl (k5, 11, .inl u1)), (m2, .inl (k6, 11, .inl u2)), (mt, .inl (k7, 121, .inl u3))]) [16, 21, 22, 23] rfl) (hK.sub (tys' := [(k5, .int), (k6, .int), (k7, .int), (k1, .long), (k2, .int)]) [10, 11, 12, 6, 7] rfl) hNw)⟩ rfl rfl hl.1 rfl (lv_room (Nat.le_of_ble_eq_true rfl)) dL_law_1082 ⟨by show _ ≤ 601024; omega, by show _ ≤ 7293034; omega⟩) hS (fun q _ h => hF q h) hF (fun rb8 u_11 t_10 H_8 locs_9 ht hvm hrb8 hB hz1 hk1 hS => ?_)
  obtain ⟨t8, o2_12, q2_13, g1_14, g2_15, g3_16⟩ := u_11
  dsimp only at hrb8 hB
  replace hB : va_P D vwCl [(mo, .inr (9, [.int t8, .int (nI n), .ref mw, .ref mct, .ref mp, .ref mnm, .ref m1, .ref m2, .int o2_12, .int q2_13, .ref mt, .ref mk, .ref mr, .ref ml, .ref mq])), (m1, .inl (k5, 11, .inl g1_14)), (m2, .inl (k6, 11, .inl g2_15)), (mt, .inl (k7, 121, .inl g3_16))] H_8 := by rw [← ht]; exact hB
  obtain ⟨hP, hD⟩ := q_join (wc := [(mo, .inr (9, [.int th, .int (nI n), .ref mw, .ref mct, .ref mp, .ref mnm, .ref m1, .ref m2, .int om, .int tm, .ref mt, .ref mk, .ref mr, .ref ml, .ref mq])), (m1, .inl (k5, 11, .inl u1)), (m2, .inl (k6, 11, .inl u2)), (mt, .inl (k7, 121, .inl u3))]) (w1 := [(mo, .inr (9, [.int t8, .int (nI n), .ref mw, .ref mct, .ref mp, .ref mnm, .ref m1, .ref m2, .int o2_12, .int q2_13, .ref mt, .ref mk, .ref mr, .ref ml, .ref mq])), (m1, .inl (k5, 11, .inl g1_14)), (m2, .inl (k6, 11, .inl g2_15)), (mt, .inl (k7, 121, .inl g3_16))]) (ws' := [(xo, .inr (8, [.ref gg, .ref tr, .ref ti, .ref s2, .ref s3, .ref n2])), (gg, .inr (1, [.ref gr])), (gr, .inr (2, [.ref ce])), (ce, .inl (cG, 121, .inl fc2_6)), (tr, .inr (5, [.ref sh])), (sh, .inr (4, [.ref ar, .int (nI n)])), (ar, .inl (cS, 40, .inr (.inr (.inr (.inr f))))), (ti, .inr (6, [.ref n1])), (n1, .inr (3, [.ref l1, .int z1])), (l1, .inl (cJ1, 401, .inr (.inl fN))), (s2, .inr (4, [.ref a2, .int (nI m)])), (a2, .inl (cS2, 40, .inr (.inr (.inr (.inr fk))))), (s3, .inr (4, [.ref a3, .int z3])), (a3, .inl (cS3, 40, .inr (.inr (.inr (.inr fr))))), (n2, .inr (3, [.ref l2, .int z2])), (l2, .inl (cJ2, 56, .inr (.inl fs))), (mo, .inr (9, [.int t8, .int (nI n), .ref mw, .ref mct, .ref mp, .ref mnm, .ref m1, .ref m2, .int o2_12, .int q2_13, .ref mt, .ref mk, .ref mr, .ref ml, .ref mq])), (mw, .inl (k1, 40, .inr (.inl (fun k9 => lN (wd k9))))), (mct, .inl (k2, 40, .inl (fun k9 => nI (ct k9)))), (mp, .inl (k3, 40, .inl (fun k9 => pin (pa k9)))), (mnm, .inl (k4, 40, .inl (fun k9 => nI (nm k9)))), (m1, .inl (k5, 11, .inl g1_14)), (m2, .inl (k6, 11, .inl g2_15)), (mt, .inl (k7, 121, .inl g3_16)), (mk, .inl (k8, 27, .inl (fun k9 => nI (kyf k9)))), (mr, .inl (k9c, 401, .inr (.inl u4))), (ml, .inl (k10, 64, .inr (.inl u5))), (mq, .inl (k11, 64, .inr (.inl u6))), (out, .inl (cO, 1, .inr (.inl fo8)))] ++ (EW ea wa (fun k => (pa k).map ea) nm dp ct ic lf pt n ++ WW wa wd n)) [16, 21, 22, 23] hP hD rfl rfl hk1 hB rfl
  have hR := q_ro hR0 hna hS
  obtain ⟨g80, g81⟩ := hrb8
  have hE : t8 = rv8 ∧ (rv8 = 0 → fo8 0 = (rb8).toInt64) := q_hv1 hF8 g80 (fun h9 => by rw [g81 h9, ← near_eq hKN])
  refine lv_istore (lv' := [(6, .int rb8), (5, .int rv8), (0, .ref b), (1, .ref xo), (2, .ref mo), (3, .ref out), (4, .int (nI i))]) hx hb dL_law_1085 hl (by decide) rfl (fun ls hl => ?_)
  refine lv_aload_n hx hb dL_law_1087 rfl (lv_at hl 4 rfl) ?_
  refine vp_callSi (W.runV (As := []) (rest := []) ⟨hx, hb, hml, hown, hts⟩ (c_X10_thrown (l := l) (D := D) (mo := mo) (mw := mw) (mct := mct) (mp := mp) (mnm := mnm) (m1 := m1) (m2 := m2) (mt := mt) (mk := mk) (mr := mr) (ml := ml) (mq := mq) (th := t8) (n := n) (om := o2_12) (tm := q2_13) ) (cwV 0 hts gL_law_X10_thrown rfl rfl rfl (by decide +kernel) ⟨Nat.le_of_ble_eq_true rfl, Nat.le_of_ble_eq_true rfl⟩) ⟨qP_blind, (va_recv hK hP (ci := 9) (q0 := 16) rfl rfl), (qP_of (hP.sub (ws' := [(mo, .inr (9, [.int t8, .int (nI n), .ref mw, .ref mct, .ref mp, .ref mnm, .ref m1, .ref m2, .int o2_12, .int q2_13, .ref mt, .ref mk, .ref mr, .ref ml, .ref mq]))]) [16] rfl) (hK.sub (tys' := []) [] rfl) hNw)⟩ rfl rfl hl.1 rfl (lv_room (Nat.le_of_ble_eq_true rfl)) dL_law_1088 ⟨by show _ ≤ 601024; omega, by show _ ≤ 7293034; omega⟩) (fun r_17 hr_17 => ?_)
  have hr_17 := hr_17.symm
  subst hr_17
  refine lv_iload hx hb dL_law_1091 (lv_at hl 1 rfl) ?_
  refine lv_icmp_eq (tgt := 1098) hx hb dL_law_1093 (by decide) (fun c_1093 => ?_) (fun c_1093 => False.elim (by exact c_1093 hE.1))
  refine lv_iload hx hb dL_law_1098 (lv_at hl 1 rfl) ?_
  refine lv_if_ne (tgt := 1115) hx hb dL_law_1100 (by decide) (fun c_1100 => ?_) (fun c_1100 => ?_)
  · skip
    refine lv_goto (tgt := 1919) hx hb dL_law_1115 (by decide) ?_
    exact K _ _ _ _ _ ⟨n, m, wd, ct, pa, nm, dp, ki, ea, wa, ic, lf, pt, f, fk, fc2_6, z1, fN, z3, fr, z2, fs, t8, o2_12, q2_13, g1_14, g2_15, g3_16, u4, u5, u6, fo8, hI, hfe, hfk, hP, hD, hS⟩ (lv_sub hl [2, 3, 4, 5, 6] rfl) (by omega) (by omega)
  · skip
    refine lv_aload_n hx hb dL_law_1103 rfl (lv_at hl 5 rfl) ?_
    refine lv_iconst (v := nI 0) hx hb dL_law_1104 (by decide) ?_
    refine va_lald (D := D) hx hb hK hP 28 17 rfl rfl (vp_in_nI (n := 0) (N := 1) (by omega) (by decide)) dL_law_1105 ?_
    rw [nI_clamp (n := 0) (by omega)]
    refine lv_iload hx hb dL_law_1106 (lv_at hl 0 rfl) ?_
    refine lv_i2l hx hb dL_law_1108 rfl ?_
    refine W.lcmp hx hb dL_law_1109 ?_
    refine q_lr_eq (tgt := 1115) hx hb dL_law_1110 (by decide) (fun c_1110 => ?_) (fun c_1110 => False.elim (by exact c_1110 (hE.2 c_1100)))
    refine lv_goto (tgt := 1919) hx hb dL_law_1115 (by decide) ?_
    exact K _ _ _ _ _ ⟨n, m, wd, ct, pa, nm, dp, ki, ea, wa, ic, lf, pt, f, fk, fc2_6, z1, fN, z3, fr, z2, fs, t8, o2_12, q2_13, g1_14, g2_15, g3_16, u4, u5, u6, fo8, hI, hfe, hfk, hP, hD, hS⟩ (lv_sub hl [2, 3, 4, 5, 6] rfl) (by omega) (by omega)

set_option maxHeartbeats 4000000 in
set_option maxRecDepth 100000 in
/-- trieNodes -/
theorem lw_c1118 {p : Program} {l : Launch} {e : Env} {s : State} {mi9 : MethodId} {belowM : List Frame} {methM : Method} {cM : Code} {Q : State → Prop} {D : va_G} {A : Nat → Prop} {b L i : Nat} {xs : Nat → Int32} {xo gg gr ce tr sh ar ti n1 l1 s2 a2 s3 a3 n2 l2 mo mw mct mp mnm m1 m2 mt mk mr ml mq out : Nat} {cS cS2 cG cJ1 cS3 cJ2 k1 k2 k3 k4 k5 k6 k7 k8 k9c k10 k11 cO : ClassId} {H : Heap} {locs : List Loc} {ls : Array Slot} {cells slots : Nat} (hE : LWE p l s mi9 cM D A b L xs [(cG, .int), (cS, .object "FuzzyFens$Entry"), (cJ1, .long), (cS2, .object "FuzzyFens$Entry"), (cS3, .object "FuzzyFens$Entry"), (cJ2, .long), (k1, .long), (k2, .int), (k3, .int), (k4, .int), (k5, .int), (k6, .int), (k7, .int), (k8, .int), (k9c, .long), (k10, .long), (k11, .long), (cO, .long)]) (hi : i + 5 ≤ L) (hW : LWI D s A xo gg gr ce tr sh ar ti n1 l1 s2 a2 s3 a3 n2 l2 mo mw mct mp mnm m1 m2 mt mk mr ml mq out cS cS2 cG cJ1 cS3 cJ2 k1 k2 k3 k4 k5 k6 k7 k8 k9c k10 k11 cO H locs) (hl : lv_has ls 8 [(0, .ref b), (1, .ref xo), (2, .ref mo), (3, .ref out), (4, .int (nI i))]) (hc9 : cells + 8 ≤ 601024) (hs9 : slots + 64 ≤ 7293034) (K : LWK p l e s mi9 belowM methM cM Q D A b i xo gg gr ce tr sh ar ti n1 l1 s2 a2 s3 a3 n2 l2 mo mw mct mp mnm m1 m2 mt mk mr ml mq out cS cS2 cG cJ1 cS3 cJ2 k1 k2 k3 k4 k5 k6 k7 k8 k9c k10 k11 cO cells slots) : W p l e room_1 s mi9 #[Value.ref b] belowM methM cM H locs cells slots Q (F0 mi9 1118 ls []) := by
  obtain ⟨hx, hb, hml, hown, hts, hX, hbl, hbA, hA, hK, hNw, hZ, hXt, hst, hL⟩ := hE
  obtain ⟨n, m, wd, ct, pa, nm, dp, ki, ea, wa, ic, lf, pt, f, fk, fc, z1, fN, z3, fr, z2, fs, th, om, tm, u1, u2, u3, u4, u5, u6, fo, hI, hfe, hfk, hP, hD, hS⟩ := hW
  have hI0 := hI
  obtain ⟨hn40, hg, hwi, hct, hpn, hun, hnm, hnz, hdp, hKN, hSR⟩ := hI0
  have hmn := kn_le hKN hSR
  have hm : m ≤ 40 := Nat.le_trans hmn hn40
  have hki : ∀ j, j < m → ki j < n := fun j h => (hKN.1 j h).1
  have hcb : ∀ k, k < n → ct k < 2 ^ 31 := fun k h => by have := hct k h; omega
  have hnb : ∀ k, k < n → nm k < 2 ^ 31 := fun k h => by have := hnm k h; omega
  have hmz : ∀ i, i < n → ct i = 0 → m < n := fun i h h0 => kn_lt hKN hSR h h0
  have hkinj := srt_inj hSR
  have hkn := hKN.2
  have heai := q_poolinj hD
  have hR0 : va_P D vwCl [] s.heap := q_Pof (fun _ h => absurd h List.not_mem_nil)
  have hR := hR0
  have hna : ∀ q ∈ ([] : va_W), ¬ A q.1 := fun q h => absurd h List.not_mem_nil
  have hnR : (([] : va_W).map (·.1)).Nodup := List.nodup_nil
  refine lv_aload_n hx hb dL_law_1118 rfl (lv_at hl 1 rfl) ?_
  refine vp_callSi (W.runV (As := []) (rest := []) ⟨hx, hb, hml, hown, hts⟩ (c_X9_trieNodes (l := l) (D := D) (xo := xo) (gg := gg) (gr := gr) (ce := ce) (tr := tr) (sh := sh) (ar := ar) (ti := ti) (n1 := n1) (l1 := l1) (s2 := s2) (a2 := a2) (s3 := s3) (a3 := a3) (n2 := n2) (l2 := l2) (cS2 := cS2) (fk := fk) (m := m) (ki := ki) (ea := ea) (wa := wa) (pf := (fun k => (pa k).map ea)) (cn := nm) (dp := dp) (oc := ct) (ic := ic) (lf := lf) (pt := pt) (wd := wd) (n := n) (hm := hm) (hf := hfk) (hki := hki) (hg := hg)) (cwV 0 hts gL_law_X9_trieNodes rfl rfl rfl (by decide +kernel) ⟨Nat.le_of_ble_eq_true rfl, Nat.le_of_ble_eq_true rfl⟩) ⟨qP_blind, (va_recv hK hP (ci := 8) (q0 := 0) rfl rfl), (qP_of (va_P.app (hP.sub (ws' := [(xo, .inr (8, [.ref gg, .ref tr, .ref ti, .ref s2, .ref s3, .ref n2])), (s2, .inr (4, [.ref a2, .int (nI m)])), (a2, .inl (cS2, 40, .inr (.inr (.inr (.inr fk)))))]) [0, 10, 11] rfl) (q_right hP)) (hK.sub (tys' := [(cS2, .object "FuzzyFens$Entry")]) [3] rfl) hNw)⟩ rfl rfl hl.1 rfl (lv_room (Nat.le_of_ble_eq_true rfl)) dL_law_1119 ⟨by show _ ≤ 601024; omega, by show _ ≤ 7293034; omega⟩) (fun r_1 hr_1 => ?_)
  subst hr_1
  refine lv_aload_n hx hb dL_law_1122 rfl (lv_at hl 2 rfl) ?_
  have hF := va_free (wc := [(mo, .inr (9, [.int th, .int (nI n), .ref mw, .ref mct, .ref mp, .ref mnm, .ref m1, .ref m2, .int om, .int tm, .ref mt, .ref mk, .ref mr, .ref ml, .ref mq]))]) hD hS hA [16] rfl
  refine va_calli (va_runV (As := []) (rest := [.int (nI (tnd wd ki m))]) ⟨hx, hb, hml, hown, hts⟩ (c_X10_trieNodes (l := l) (D := D) (mo := mo) (mw := mw) (mct := mct) (mp := mp) (mnm := mnm) (m1 := m1) (m2 := m2) (mt := mt) (mk := mk) (mr := mr) (ml := ml) (mq := mq) (k1 := k1) (k2 := k2) (th := th) (n := n) (om := om) (tm := tm) (wd := wd) (ct := ct) (sz := H.size) (hnd := (q_nds (q_ndl (q_ndsw (q_ndg (l1 := [xo, gg, gr, ce, tr, sh, ar, ti, n1, l1, s2, a2, s3, a3, n2, l2, mo, mw, mct, mp, mnm, m1, m2, mt, mk, mr, ml, mq, out] ++ (rg ea n ++ rg wa n)) (l2 := []) hD hnR hna (by rw [List.map_append, List.map_append, EW_fst, WW_fst]; rfl) rfl))) [16, 17, 18] rfl rfl)) (hn40 := hn40) (hgw := hg) (hcb := hcb)) (cwV 0 hts gL_law_X10_trieNodes rfl rfl rfl (by decide +kernel) ⟨Nat.le_of_ble_eq_true rfl, Nat.le_of_ble_eq_true rfl⟩) ⟨qW_blind, (va_recv hK hP (ci := 9) (q0 := 16) rfl rfl), (qW_of (hP.sub (ws' := [(mw, .inl (k1, 40, .inr (.inl (fun k9 => lN (wd k9))))), (mct, .inl (k2, 40, .inl (fun k9 => nI (ct k9))))]) [17, 18] rfl) (hP.sub (ws' := [(mo, .inr (9, [.int th, .int (nI n), .ref mw, .ref mct, .ref mp, .ref mnm, .ref m1, .ref m2, .int om, .int tm, .ref mt, .ref mk, .ref mr, .ref ml, .ref mq]))]) [16] rfl) (hK.sub (tys' := [(k1, .long), (k2, .int)]) [6, 7] rfl) hNw)⟩ rfl rfl hl.1 rfl (lv_room (Nat.le_of_ble_eq_true rfl)) dL_law_1123 ⟨by show _ ≤ 601024; omega, by show _ ≤ 7293034; omega⟩) hS (fun q _ h => hF q h) hF (fun r_2 u_6 t_5 H_3 locs_4 ht hvm hr_2 hB hz1 hk1 hS => ?_)
  replace hB : va_P D vwCl [(mo, .inr (9, [.int (nI 0), .int (nI n), .ref mw, .ref mct, .ref mp, .ref mnm, .ref m1, .ref m2, .int om, .int tm, .ref mt, .ref mk, .ref mr, .ref ml, .ref mq]))] H_3 := by rw [← ht]; exact hB
  obtain ⟨hP, hD⟩ := q_join (wc := [(mo, .inr (9, [.int th, .int (nI n), .ref mw, .ref mct, .ref mp, .ref mnm, .ref m1, .ref m2, .int om, .int tm, .ref mt, .ref mk, .ref mr, .ref ml, .ref mq]))]) (w1 := [(mo, .inr (9, [.int (nI 0), .int (nI n), .ref mw, .ref mct, .ref mp, .ref mnm, .ref m1, .ref m2, .int om, .int tm, .ref mt, .ref mk, .ref mr, .ref ml, .ref mq]))]) (ws' := [(xo, .inr (8, [.ref gg, .ref tr, .ref ti, .ref s2, .ref s3, .ref n2])), (gg, .inr (1, [.ref gr])), (gr, .inr (2, [.ref ce])), (ce, .inl (cG, 121, .inl fc)), (tr, .inr (5, [.ref sh])), (sh, .inr (4, [.ref ar, .int (nI n)])), (ar, .inl (cS, 40, .inr (.inr (.inr (.inr f))))), (ti, .inr (6, [.ref n1])), (n1, .inr (3, [.ref l1, .int z1])), (l1, .inl (cJ1, 401, .inr (.inl fN))), (s2, .inr (4, [.ref a2, .int (nI m)])), (a2, .inl (cS2, 40, .inr (.inr (.inr (.inr fk))))), (s3, .inr (4, [.ref a3, .int z3])), (a3, .inl (cS3, 40, .inr (.inr (.inr (.inr fr))))), (n2, .inr (3, [.ref l2, .int z2])), (l2, .inl (cJ2, 56, .inr (.inl fs))), (mo, .inr (9, [.int (nI 0), .int (nI n), .ref mw, .ref mct, .ref mp, .ref mnm, .ref m1, .ref m2, .int om, .int tm, .ref mt, .ref mk, .ref mr, .ref ml, .ref mq])), (mw, .inl (k1, 40, .inr (.inl (fun k9 => lN (wd k9))))), (mct, .inl (k2, 40, .inl (fun k9 => nI (ct k9)))), (mp, .inl (k3, 40, .inl (fun k9 => pin (pa k9)))), (mnm, .inl (k4, 40, .inl (fun k9 => nI (nm k9)))), (m1, .inl (k5, 11, .inl u1)), (m2, .inl (k6, 11, .inl u2)), (mt, .inl (k7, 121, .inl u3)), (mk, .inl (k8, 27, .inl (fun k9 => nI (kyf k9)))), (mr, .inl (k9c, 401, .inr (.inl u4))), (ml, .inl (k10, 64, .inr (.inl u5))), (mq, .inl (k11, 64, .inr (.inl u6))), (out, .inl (cO, 1, .inr (.inl fo)))] ++ (EW ea wa (fun k => (pa k).map ea) nm dp ct ic lf pt n ++ WW wa wd n)) [16] hP hD rfl rfl hk1 hB rfl
  have hR := q_ro hR0 hna hS
  subst hr_2
  refine q_cvi (show (nI (1 + sm (fun i => fwc wd ct i 10) n)) = (nI (tnd wd ki m)) from by rw [tnd_eq hg hKN hSR]) ?_
  refine q_icmp_eq (a := tnd wd ki m) (b := tnd wd ki m) (tgt := 1919) hx hb dL_law_1126 (by decide) (by have := tnd_le (wd := wd) (ki := ki) (m := m) (fun j hj => gw_wl (hg _ (hki j hj))); omega) (by have := tnd_le (wd := wd) (ki := ki) (m := m) (fun j hj => gw_wl (hg _ (hki j hj))); omega) (fun c_1126 => ?_) (fun c_1126 => False.elim (by exact c_1126 rfl))
  exact K _ _ _ _ _ ⟨n, m, wd, ct, pa, nm, dp, ki, ea, wa, ic, lf, pt, f, fk, fc, z1, fN, z3, fr, z2, fs, nI 0, om, tm, u1, u2, u3, u4, u5, u6, fo, hI, hfe, hfk, hP, hD, hS⟩ (lv_sub hl [0, 1, 2, 3, 4] rfl) (by omega) (by omega)

set_option maxHeartbeats 4000000 in
set_option maxRecDepth 100000 in
/-- trieReached -/
theorem lw_c1131 {p : Program} {l : Launch} {e : Env} {s : State} {mi9 : MethodId} {belowM : List Frame} {methM : Method} {cM : Code} {Q : State → Prop} {D : va_G} {A : Nat → Prop} {b L i : Nat} {xs : Nat → Int32} {xo gg gr ce tr sh ar ti n1 l1 s2 a2 s3 a3 n2 l2 mo mw mct mp mnm m1 m2 mt mk mr ml mq out : Nat} {cS cS2 cG cJ1 cS3 cJ2 k1 k2 k3 k4 k5 k6 k7 k8 k9c k10 k11 cO : ClassId} {H : Heap} {locs : List Loc} {ls : Array Slot} {cells slots : Nat} (hE : LWE p l s mi9 cM D A b L xs [(cG, .int), (cS, .object "FuzzyFens$Entry"), (cJ1, .long), (cS2, .object "FuzzyFens$Entry"), (cS3, .object "FuzzyFens$Entry"), (cJ2, .long), (k1, .long), (k2, .int), (k3, .int), (k4, .int), (k5, .int), (k6, .int), (k7, .int), (k8, .int), (k9c, .long), (k10, .long), (k11, .long), (cO, .long)]) (hi : i + 5 ≤ L) (hW : LWI D s A xo gg gr ce tr sh ar ti n1 l1 s2 a2 s3 a3 n2 l2 mo mw mct mp mnm m1 m2 mt mk mr ml mq out cS cS2 cG cJ1 cS3 cJ2 k1 k2 k3 k4 k5 k6 k7 k8 k9c k10 k11 cO H locs) (hl : lv_has ls 8 [(0, .ref b), (1, .ref xo), (2, .ref mo), (3, .ref out), (4, .int (nI i))]) (hc9 : cells + 8 ≤ 601024) (hs9 : slots + 64 ≤ 7293034) (K : LWK p l e s mi9 belowM methM cM Q D A b i xo gg gr ce tr sh ar ti n1 l1 s2 a2 s3 a3 n2 l2 mo mw mct mp mnm m1 m2 mt mk mr ml mq out cS cS2 cG cJ1 cS3 cJ2 k1 k2 k3 k4 k5 k6 k7 k8 k9c k10 k11 cO cells slots) : W p l e room_1 s mi9 #[Value.ref b] belowM methM cM H locs cells slots Q (F0 mi9 1131 ls []) := by
  obtain ⟨hx, hb, hml, hown, hts, hX, hbl, hbA, hA, hK, hNw, hZ, hXt, hst, hL⟩ := hE
  obtain ⟨n, m, wd, ct, pa, nm, dp, ki, ea, wa, ic, lf, pt, f, fk, fc, z1, fN, z3, fr, z2, fs, th, om, tm, u1, u2, u3, u4, u5, u6, fo, hI, hfe, hfk, hP, hD, hS⟩ := hW
  have hI0 := hI
  obtain ⟨hn40, hg, hwi, hct, hpn, hun, hnm, hnz, hdp, hKN, hSR⟩ := hI0
  have hmn := kn_le hKN hSR
  have hm : m ≤ 40 := Nat.le_trans hmn hn40
  have hki : ∀ j, j < m → ki j < n := fun j h => (hKN.1 j h).1
  have hcb : ∀ k, k < n → ct k < 2 ^ 31 := fun k h => by have := hct k h; omega
  have hnb : ∀ k, k < n → nm k < 2 ^ 31 := fun k h => by have := hnm k h; omega
  have hmz : ∀ i, i < n → ct i = 0 → m < n := fun i h h0 => kn_lt hKN hSR h h0
  have hkinj := srt_inj hSR
  have hkn := hKN.2
  have heai := q_poolinj hD
  have hR0 : va_P D vwCl [] s.heap := q_Pof (fun _ h => absurd h List.not_mem_nil)
  have hR := hR0
  have hna : ∀ q ∈ ([] : va_W), ¬ A q.1 := fun q h => absurd h List.not_mem_nil
  have hnR : (([] : va_W).map (·.1)).Nodup := List.nodup_nil
  refine lv_aload_n hx hb dL_law_1131 rfl (lv_at hl 1 rfl) ?_
  refine lv_aload_n hx hb dL_law_1132 rfl (lv_at hl 0 rfl) ?_
  refine lv_iload hx hb dL_law_1133 (lv_at hl 4 rfl) ?_
  refine lv_iconst (v := nI 1) hx hb dL_law_1135 (by decide) ?_
  refine q_iadd (d := i + 1) hx hb dL_law_1136 (by omega) ?_
  refine va_sld hx hb hX hbl hbA hS (vp_in_nI (n := i + 1) (N := L) (by omega) (by omega)) dL_law_1137 ?_
  rw [nI_clamp (n := i + 1) (by omega)]
  refine lv_i2l hx hb dL_law_1138 rfl ?_
  refine lv_bipush (v := nI 32) hx hb dL_law_1139 (by decide) ?_
  refine lv_lshl hx hb dL_law_1141 rfl ?_
  refine lv_aload_n hx hb dL_law_1142 rfl (lv_at hl 0 rfl) ?_
  refine lv_iload hx hb dL_law_1143 (lv_at hl 4 rfl) ?_
  refine lv_iconst (v := nI 2) hx hb dL_law_1145 (by decide) ?_
  refine q_iadd (d := i + 2) hx hb dL_law_1146 (by omega) ?_
  refine va_sld hx hb hX hbl hbA hS (vp_in_nI (n := i + 2) (N := L) (by omega) (by omega)) dL_law_1147 ?_
  rw [nI_clamp (n := i + 2) (by omega)]
  refine lv_i2l hx hb dL_law_1148 rfl ?_
  refine lv_ldc2 (v := 4294967295) hx hb hown (hts (.constantLong RL 80 (4294967295)) (List.mem_of_getElem? (i := 7) rfl)) dL_law_1149 ?_
  refine q_cvl (show (4294967295 : Int64) = lN 4294967295 by decide) ?_
  refine lv_land hx hb dL_law_1152 ?_
  refine lv_lor hx hb dL_law_1153 ?_
  obtain ⟨a, ha, hqa⟩ := q_lN ((((xs (i + 1)).toInt64) <<< ((nI 32).toInt64 &&& 63)) ||| (((xs (i + 2)).toInt64) &&& (lN 4294967295)))
  refine q_cvl hqa ?_
  refine lv_aload_n hx hb dL_law_1154 rfl (lv_at hl 0 rfl) ?_
  refine lv_iload hx hb dL_law_1155 (lv_at hl 4 rfl) ?_
  refine lv_iconst (v := nI 3) hx hb dL_law_1157 (by decide) ?_
  refine q_iadd (d := i + 3) hx hb dL_law_1158 (by omega) ?_
  refine va_sld hx hb hX hbl hbA hS (vp_in_nI (n := i + 3) (N := L) (by omega) (by omega)) dL_law_1159 ?_
  rw [nI_clamp (n := i + 3) (by omega)]
  refine lv_aload_n hx hb dL_law_1160 rfl (lv_at hl 3 rfl) ?_
  have hF := va_free (wc := [(out, .inl (cO, 1, .inr (.inl fo))), (n1, .inr (3, [.ref l1, .int z1])), (l1, .inl (cJ1, 401, .inr (.inl fN))), (ce, .inl (cG, 121, .inl fc))]) hD hS hA [28, 8, 9, 3] rfl
  refine va_calli (vx_runSW (As := [.ref xo, .long (lN a), .int (xs (i + 3)), .ref out]) (rest := []) ⟨hx, hb, hml, hown, hts⟩ (c_L_trieReached (l := l) (D := D) (xo := xo) (gg := gg) (gr := gr) (ce := ce) (tr := tr) (sh := sh) (ar := ar) (ti := ti) (n1 := n1) (l1 := l1) (s2 := s2) (a2 := a2) (s3 := s3) (a3 := a3) (n2 := n2) (l2 := l2) (cS2 := cS2) (fk := fk) (m := m) (ki := ki) (ea := ea) (wa := wa) (pf := (fun k => (pa k).map ea)) (cn := nm) (dp := dp) (oc := ct) (ic := ic) (lf := lf) (pt := pt) (wd := wd) (n := n) (cG := cG) (fc := fc) (cJ1 := cJ1) (fN := fN) (z1 := z1) (a := a) (x9 := xs (i + 3)) (out := out) (cO := cO) (fo := fo) (sz := H.size) (hnd := (q_ndt (q_ndsw (q_ndg (l1 := [xo, gg, gr, ce, tr, sh, ar, ti, n1, l1, s2, a2, s3, a3, n2, l2, mo, mw, mct, mp, mnm, m1, m2, mt, mk, mr, ml, mq, out] ++ (rg ea n ++ rg wa n)) (l2 := []) hD hnR hna (by rw [List.map_append, List.map_append, EW_fst, WW_fst]; rfl) rfl)) [28, 8, 9, 3, 0, 7, 1, 2, 10, 11] rfl rfl)) (hst := hst) (ha := by omega) (hm := hm) (hf := hfk) (hki := hki) (hg := hg)) (vx_cwSW 4 hts gL_law_L_trieReached rfl rfl rfl (by decide +kernel) ⟨Nat.le_of_ble_eq_true rfl, Nat.le_of_ble_eq_true rfl⟩) ⟨qWx_blind, (qWx_of (va_P.app (hP.sub (ws' := [(xo, .inr (8, [.ref gg, .ref tr, .ref ti, .ref s2, .ref s3, .ref n2])), (ti, .inr (6, [.ref n1])), (gg, .inr (1, [.ref gr])), (gr, .inr (2, [.ref ce])), (s2, .inr (4, [.ref a2, .int (nI m)])), (a2, .inl (cS2, 40, .inr (.inr (.inr (.inr fk)))))]) [0, 7, 1, 2, 10, 11] rfl) (q_right hP)) (hP.sub (ws' := [(out, .inl (cO, 1, .inr (.inl fo))), (n1, .inr (3, [.ref l1, .int z1])), (l1, .inl (cJ1, 401, .inr (.inl fN))), (ce, .inl (cG, 121, .inl fc))]) [28, 8, 9, 3] rfl) (hK.sub (tys' := [(cO, .long), (cJ1, .long), (cG, .int), (cS2, .object "FuzzyFens$Entry")]) [17, 2, 0, 3] rfl) hNw (qZ_at hZ hS (fun q h => hF q h)) hXt)⟩ rfl rfl hl.1 rfl (lv_room (Nat.le_of_ble_eq_true rfl)) dL_law_1161 ⟨by show _ ≤ 601024; omega, by show _ ≤ 7293034; omega⟩) hS (fun q _ h => hF q h) hF (fun rv8 u_5 t_4 H_2 locs_3 ht hvm hrv8 hB hz1 hk1 hS => ?_)
  obtain ⟨z4_6, fN2_7, fc2_8, fo8⟩ := u_5
  dsimp only at hrv8 hB
  replace hB : va_P D vwCl [(out, .inl (cO, 1, .inr (.inl fo8))), (n1, .inr (3, [.ref l1, .int z4_6])), (l1, .inl (cJ1, 401, .inr (.inl fN2_7))), (ce, .inl (cG, 121, .inl fc2_8))] H_2 := by rw [← ht]; exact hB
  obtain ⟨hP, hD⟩ := q_join (wc := [(out, .inl (cO, 1, .inr (.inl fo))), (n1, .inr (3, [.ref l1, .int z1])), (l1, .inl (cJ1, 401, .inr (.inl fN))), (ce, .inl (cG, 121, .inl fc))]) (w1 := [(out, .inl (cO, 1, .inr (.inl fo8))), (n1, .inr (3, [.ref l1, .int z4_6])), (l1, .inl (cJ1, 401, .inr (.inl fN2_7))), (ce, .inl (cG, 121, .inl fc2_8))]) (ws' := [(xo, .inr (8, [.ref gg, .ref tr, .ref ti, .ref s2, .ref s3, .ref n2])), (gg, .inr (1, [.ref gr])), (gr, .inr (2, [.ref ce])), (ce, .inl (cG, 121, .inl fc2_8)), (tr, .inr (5, [.ref sh])), (sh, .inr (4, [.ref ar, .int (nI n)])), (ar, .inl (cS, 40, .inr (.inr (.inr (.inr f))))), (ti, .inr (6, [.ref n1])), (n1, .inr (3, [.ref l1, .int z4_6])), (l1, .inl (cJ1, 401, .inr (.inl fN2_7))), (s2, .inr (4, [.ref a2, .int (nI m)])), (a2, .inl (cS2, 40, .inr (.inr (.inr (.inr fk))))), (s3, .inr (4, [.ref a3, .int z3])), (a3, .inl (cS3, 40, .inr (.inr (.inr (.inr fr))))), (n2, .inr (3, [.ref l2, .int z2])), (l2, .inl (cJ2, 56, .inr (.inl fs))), (mo, .inr (9, [.int th, .int (nI n), .ref mw, .ref mct, .ref mp, .ref mnm, .ref m1, .ref m2, .int om, .int tm, .ref mt, .ref mk, .ref mr, .ref ml, .ref mq])), (mw, .inl (k1, 40, .inr (.inl (fun k9 => lN (wd k9))))), (mct, .inl (k2, 40, .inl (fun k9 => nI (ct k9)))), (mp, .inl (k3, 40, .inl (fun k9 => pin (pa k9)))), (mnm, .inl (k4, 40, .inl (fun k9 => nI (nm k9)))), (m1, .inl (k5, 11, .inl u1)), (m2, .inl (k6, 11, .inl u2)), (mt, .inl (k7, 121, .inl u3)), (mk, .inl (k8, 27, .inl (fun k9 => nI (kyf k9)))), (mr, .inl (k9c, 401, .inr (.inl u4))), (ml, .inl (k10, 64, .inr (.inl u5))), (mq, .inl (k11, 64, .inr (.inl u6))), (out, .inl (cO, 1, .inr (.inl fo8)))] ++ (EW ea wa (fun k => (pa k).map ea) nm dp ct ic lf pt n ++ WW wa wd n)) [28, 8, 9, 3] hP hD rfl rfl hk1 hB rfl
  have hR := q_ro hR0 hna hS
  have hF8 := hrv8
  refine lv_istore (lv' := [(5, .int rv8), (0, .ref b), (1, .ref xo), (2, .ref mo), (3, .ref out), (4, .int (nI i))]) hx hb dL_law_1164 hl (by decide) rfl (fun ls hl => ?_)
  refine lv_aload_n hx hb dL_law_1166 rfl (lv_at hl 3 rfl) ?_
  refine lv_aload_n hx hb dL_law_1167 rfl (lv_at hl 1 rfl) ?_
  refine lv_iload hx hb dL_law_1168 (lv_at hl 5 rfl) ?_
  refine lv_iconst (v := nI 1) hx hb dL_law_1170 (by decide) ?_
  refine q_iadd (d := i + 1) hx hb dL_law_1171 (by omega) ?_
  refine va_sld hx hb hX hbl hbA hS (vp_in_nI (n := i + 1) (N := L) (by omega) (by omega)) dL_law_1172 ?_
  rw [nI_clamp (n := i + 1) (by omega)]
  refine lv_i2l hx hb dL_law_1173 rfl ?_
  refine lv_bipush (v := nI 32) hx hb dL_law_1174 (by decide) ?_
  refine lv_lshl hx hb dL_law_1176 rfl ?_
  refine lv_aload_n hx hb dL_law_1177 rfl (lv_at hl 1 rfl) ?_
  refine lv_iload hx hb dL_law_1178 (lv_at hl 5 rfl) ?_
  refine lv_iconst (v := nI 2) hx hb dL_law_1180 (by decide) ?_
  refine q_iadd (d := i + 2) hx hb dL_law_1181 (by omega) ?_
  refine va_sld hx hb hX hbl hbA hS (vp_in_nI (n := i + 2) (N := L) (by omega) (by omega)) dL_law_1182 ?_
  rw [nI_clamp (n := i + 2) (by omega)]
  refine lv_i2l hx hb dL_law_1183 rfl ?_
  refine lv_ldc2 (v := 4294967295) hx hb hown (hts (.constantLong RL 80 (4294967295)) (List.mem_of_getElem? (i := 7) rfl)) dL_law_1184 ?_
  refine q_cvl (show (4294967295 : Int64) = lN 4294967295 by decide) ?_
  refine lv_land hx hb dL_law_1187 ?_
  refine lv_lor hx hb dL_law_1188 ?_
  refine q_cvl hqa ?_
  refine lv_aload_n hx hb dL_law_1189 rfl (lv_at hl 1 rfl) ?_
  refine lv_iload hx hb dL_law_1190 (lv_at hl 5 rfl) ?_
  refine lv_iconst (v := nI 3) hx hb dL_law_1192 (by decide) ?_
  refine q_iadd (d := i + 3) hx hb dL_law_1193 (by omega) ?_
  refine va_sld hx hb hX hbl hbA hS (vp_in_nI (n := i + 3) (N := L) (by omega) (by omega)) dL_law_1194 ?_
  rw [nI_clamp (n := i + 3) (by omega)]
  have hF := va_free (wc := [(mo, .inr (9, [.int th, .int (nI n), .ref mw, .ref mct, .ref mp, .ref mnm, .ref m1, .ref m2, .int om, .int tm, .ref mt, .ref mk, .ref mr, .ref ml, .ref mq])), (m1, .inl (k5, 11, .inl u1)), (m2, .inl (k6, 11, .inl u2)), (mt, .inl (k7, 121, .inl u3)), (mr, .inl (k9c, 401, .inr (.inl u4)))]) hD hS hA [16, 21, 22, 23, 25] rfl
  refine va_calli (va_runV (As := [.long (lN a), .int (xs (i + 3))]) (rest := []) ⟨hx, hb, hml, hown, hts⟩ (c_X10_trieReached (l := l) (D := D) (mo := mo) (mw := mw) (mct := mct) (mp := mp) (mnm := mnm) (m1 := m1) (m2 := m2) (mt := mt) (mk := mk) (mr := mr) (ml := ml) (mq := mq) (k1 := k1) (k2 := k2) (k5 := k5) (k6 := k6) (k7 := k7) (k9c := k9c) (th := th) (n := n) (om := om) (tm := tm) (f1 := u1) (f2 := u2) (ft := u3) (fr := u4) (wd := wd) (ct := ct) (a := a) (x9 := xs (i + 3)) (sz := H_2.size) (hnd := (q_nds (q_ndl (q_ndsw (q_ndg (l1 := [xo, gg, gr, ce, tr, sh, ar, ti, n1, l1, s2, a2, s3, a3, n2, l2, mo, mw, mct, mp, mnm, m1, m2, mt, mk, mr, ml, mq, out] ++ (rg ea n ++ rg wa n)) (l2 := []) hD hnR hna (by rw [List.map_append, List.map_append, EW_fst, WW_fst]; rfl) rfl))) [16, 21, 22, 23, 25, 17, 18] rfl rfl)) (ha := by omega) (hn40 := hn40) (hgw := hg) (hcb := hcb)) (cwV 2 hts gL_law_X10_trieReached rfl rfl rfl (by decide +kernel) ⟨Nat.le_of_ble_eq_true rfl, Nat.le_of_ble_eq_true rfl⟩) ⟨qW_blind, (va_recv hK hP (ci := 9) (q0 := 16) rfl rfl), (qW_of (hP.sub (ws' := [(mw, .inl (k1, 40, .inr (.inl (fun k9 => lN (wd k9))))), (mct, .inl (k2, 40, .inl (fun k9 => nI (ct k9))))]) [17, 18] rfl) (hP.sub (ws' := [(mo, .inr (9, [.int th, .int (nI n), .ref mw, .ref mct, .ref mp, .ref mnm, .ref m1, .ref m2, .int om, .int tm, .ref mt, .ref mk, .ref mr, .ref ml, .ref mq])), (m1, .inl (k5, 11, .inl u1)), (m2, .inl (k6, 11, .inl u2)), (mt, .inl (k7, 121, .inl u3)), (mr, .inl (k9c, 401, .inr (.inl u4)))]) [16, 21, 22, 23, 25] rfl) (hK.sub (tys' := [(k5, .int), (k6, .int), (k7, .int), (k9c, .long), (k1, .long), (k2, .int)]) [10, 11, 12, 14, 6, 7] rfl) hNw)⟩ rfl rfl hl.1 rfl (lv_room (Nat.le_of_ble_eq_true rfl)) dL_law_1195 ⟨by show _ ≤ 601024; omega, by show _ ≤ 7293034; omega⟩) hS (fun q _ h => hF q h) hF (fun rb8 u_13 t_12 H_10 locs_11 ht hvm hrb8 hB hz1 hk1 hS => ?_)
  obtain ⟨t8, o2_14, q2_15, g1_16, g2_17, g3_18, g4_19⟩ := u_13
  dsimp only at hrb8 hB
  replace hB : va_P D vwCl [(mo, .inr (9, [.int t8, .int (nI n), .ref mw, .ref mct, .ref mp, .ref mnm, .ref m1, .ref m2, .int o2_14, .int q2_15, .ref mt, .ref mk, .ref mr, .ref ml, .ref mq])), (m1, .inl (k5, 11, .inl g1_16)), (m2, .inl (k6, 11, .inl g2_17)), (mt, .inl (k7, 121, .inl g3_18)), (mr, .inl (k9c, 401, .inr (.inl g4_19)))] H_10 := by rw [← ht]; exact hB
  obtain ⟨hP, hD⟩ := q_join (wc := [(mo, .inr (9, [.int th, .int (nI n), .ref mw, .ref mct, .ref mp, .ref mnm, .ref m1, .ref m2, .int om, .int tm, .ref mt, .ref mk, .ref mr, .ref ml, .ref mq])), (m1, .inl (k5, 11, .inl u1)), (m2, .inl (k6, 11, .inl u2)), (mt, .inl (k7, 121, .inl u3)), (mr, .inl (k9c, 401, .inr (.inl u4)))]) (w1 := [(mo, .inr (9, [.int t8, .int (nI n), .ref mw, .ref mct, .ref mp, .ref mnm, .ref m1, .ref m2, .int o2_14, .int q2_15, .ref mt, .ref mk, .ref mr, .ref ml, .ref mq])), (m1, .inl (k5, 11, .inl g1_16)), (m2, .inl (k6, 11, .inl g2_17)), (mt, .inl (k7, 121, .inl g3_18)), (mr, .inl (k9c, 401, .inr (.inl g4_19)))]) (ws' := [(xo, .inr (8, [.ref gg, .ref tr, .ref ti, .ref s2, .ref s3, .ref n2])), (gg, .inr (1, [.ref gr])), (gr, .inr (2, [.ref ce])), (ce, .inl (cG, 121, .inl fc2_8)), (tr, .inr (5, [.ref sh])), (sh, .inr (4, [.ref ar, .int (nI n)])), (ar, .inl (cS, 40, .inr (.inr (.inr (.inr f))))), (ti, .inr (6, [.ref n1])), (n1, .inr (3, [.ref l1, .int z4_6])), (l1, .inl (cJ1, 401, .inr (.inl fN2_7))), (s2, .inr (4, [.ref a2, .int (nI m)])), (a2, .inl (cS2, 40, .inr (.inr (.inr (.inr fk))))), (s3, .inr (4, [.ref a3, .int z3])), (a3, .inl (cS3, 40, .inr (.inr (.inr (.inr fr))))), (n2, .inr (3, [.ref l2, .int z2])), (l2, .inl (cJ2, 56, .inr (.inl fs))), (mo, .inr (9, [.int t8, .int (nI n), .ref mw, .ref mct, .ref mp, .ref mnm, .ref m1, .ref m2, .int o2_14, .int q2_15, .ref mt, .ref mk, .ref mr, .ref ml, .ref mq])), (mw, .inl (k1, 40, .inr (.inl (fun k9 => lN (wd k9))))), (mct, .inl (k2, 40, .inl (fun k9 => nI (ct k9)))), (mp, .inl (k3, 40, .inl (fun k9 => pin (pa k9)))), (mnm, .inl (k4, 40, .inl (fun k9 => nI (nm k9)))), (m1, .inl (k5, 11, .inl g1_16)), (m2, .inl (k6, 11, .inl g2_17)), (mt, .inl (k7, 121, .inl g3_18)), (mk, .inl (k8, 27, .inl (fun k9 => nI (kyf k9)))), (mr, .inl (k9c, 401, .inr (.inl g4_19))), (ml, .inl (k10, 64, .inr (.inl u5))), (mq, .inl (k11, 64, .inr (.inl u6))), (out, .inl (cO, 1, .inr (.inl fo8)))] ++ (EW ea wa (fun k => (pa k).map ea) nm dp ct ic lf pt n ++ WW wa wd n)) [16, 21, 22, 23, 25] hP hD rfl rfl hk1 hB rfl
  have hR := q_ro hR0 hna hS
  obtain ⟨g80, g81⟩ := hrb8
  have hE : t8 = rv8 ∧ (rv8 = 0 → fo8 0 = (rb8).toInt64) := q_hv1 hF8 g80 (fun h9 => by rw [g81 h9, ren_eq hg hKN hSR])
  refine lv_istore (lv' := [(6, .int rb8), (5, .int rv8), (0, .ref b), (1, .ref xo), (2, .ref mo), (3, .ref out), (4, .int (nI i))]) hx hb dL_law_1198 hl (by decide) rfl (fun ls hl => ?_)
  refine lv_aload_n hx hb dL_law_1200 rfl (lv_at hl 4 rfl) ?_
  refine vp_callSi (W.runV (As := []) (rest := []) ⟨hx, hb, hml, hown, hts⟩ (c_X10_thrown (l := l) (D := D) (mo := mo) (mw := mw) (mct := mct) (mp := mp) (mnm := mnm) (m1 := m1) (m2 := m2) (mt := mt) (mk := mk) (mr := mr) (ml := ml) (mq := mq) (th := t8) (n := n) (om := o2_14) (tm := q2_15) ) (cwV 0 hts gL_law_X10_thrown rfl rfl rfl (by decide +kernel) ⟨Nat.le_of_ble_eq_true rfl, Nat.le_of_ble_eq_true rfl⟩) ⟨qP_blind, (va_recv hK hP (ci := 9) (q0 := 16) rfl rfl), (qP_of (hP.sub (ws' := [(mo, .inr (9, [.int t8, .int (nI n), .ref mw, .ref mct, .ref mp, .ref mnm, .ref m1, .ref m2, .int o2_14, .int q2_15, .ref mt, .ref mk, .ref mr, .ref ml, .ref mq]))]) [16] rfl) (hK.sub (tys' := []) [] rfl) hNw)⟩ rfl rfl hl.1 rfl (lv_room (Nat.le_of_ble_eq_true rfl)) dL_law_1201 ⟨by show _ ≤ 601024; omega, by show _ ≤ 7293034; omega⟩) (fun r_20 hr_20 => ?_)
  have hr_20 := hr_20.symm
  subst hr_20
  refine lv_iload hx hb dL_law_1204 (lv_at hl 1 rfl) ?_
  refine lv_icmp_eq (tgt := 1211) hx hb dL_law_1206 (by decide) (fun c_1206 => ?_) (fun c_1206 => False.elim (by exact c_1206 hE.1))
  refine lv_iload hx hb dL_law_1211 (lv_at hl 1 rfl) ?_
  refine lv_if_ne (tgt := 1228) hx hb dL_law_1213 (by decide) (fun c_1213 => ?_) (fun c_1213 => ?_)
  · skip
    refine lv_goto (tgt := 1919) hx hb dL_law_1228 (by decide) ?_
    exact K _ _ _ _ _ ⟨n, m, wd, ct, pa, nm, dp, ki, ea, wa, ic, lf, pt, f, fk, fc2_8, z4_6, fN2_7, z3, fr, z2, fs, t8, o2_14, q2_15, g1_16, g2_17, g3_18, g4_19, u5, u6, fo8, hI, hfe, hfk, hP, hD, hS⟩ (lv_sub hl [2, 3, 4, 5, 6] rfl) (by omega) (by omega)
  · skip
    refine lv_aload_n hx hb dL_law_1216 rfl (lv_at hl 5 rfl) ?_
    refine lv_iconst (v := nI 0) hx hb dL_law_1217 (by decide) ?_
    refine va_lald (D := D) hx hb hK hP 28 17 rfl rfl (vp_in_nI (n := 0) (N := 1) (by omega) (by decide)) dL_law_1218 ?_
    rw [nI_clamp (n := 0) (by omega)]
    refine lv_iload hx hb dL_law_1219 (lv_at hl 0 rfl) ?_
    refine lv_i2l hx hb dL_law_1221 rfl ?_
    refine W.lcmp hx hb dL_law_1222 ?_
    refine q_lr_eq (tgt := 1228) hx hb dL_law_1223 (by decide) (fun c_1223 => ?_) (fun c_1223 => False.elim (by exact c_1223 (hE.2 c_1213)))
    refine lv_goto (tgt := 1919) hx hb dL_law_1228 (by decide) ?_
    exact K _ _ _ _ _ ⟨n, m, wd, ct, pa, nm, dp, ki, ea, wa, ic, lf, pt, f, fk, fc2_8, z4_6, fN2_7, z3, fr, z2, fs, t8, o2_14, q2_15, g1_16, g2_17, g3_18, g4_19, u5, u6, fo8, hI, hfe, hfk, hP, hD, hS⟩ (lv_sub hl [2, 3, 4, 5, 6] rfl) (by omega) (by omega)

set_option maxHeartbeats 4000000 in
set_option maxRecDepth 100000 in
/-- rows -/
theorem lw_c1231 {p : Program} {l : Launch} {e : Env} {s : State} {mi9 : MethodId} {belowM : List Frame} {methM : Method} {cM : Code} {Q : State → Prop} {D : va_G} {A : Nat → Prop} {b L i : Nat} {xs : Nat → Int32} {xo gg gr ce tr sh ar ti n1 l1 s2 a2 s3 a3 n2 l2 mo mw mct mp mnm m1 m2 mt mk mr ml mq out : Nat} {cS cS2 cG cJ1 cS3 cJ2 k1 k2 k3 k4 k5 k6 k7 k8 k9c k10 k11 cO : ClassId} {H : Heap} {locs : List Loc} {ls : Array Slot} {cells slots : Nat} (hE : LWE p l s mi9 cM D A b L xs [(cG, .int), (cS, .object "FuzzyFens$Entry"), (cJ1, .long), (cS2, .object "FuzzyFens$Entry"), (cS3, .object "FuzzyFens$Entry"), (cJ2, .long), (k1, .long), (k2, .int), (k3, .int), (k4, .int), (k5, .int), (k6, .int), (k7, .int), (k8, .int), (k9c, .long), (k10, .long), (k11, .long), (cO, .long)]) (hi : i + 5 ≤ L) (hW : LWI D s A xo gg gr ce tr sh ar ti n1 l1 s2 a2 s3 a3 n2 l2 mo mw mct mp mnm m1 m2 mt mk mr ml mq out cS cS2 cG cJ1 cS3 cJ2 k1 k2 k3 k4 k5 k6 k7 k8 k9c k10 k11 cO H locs) (hl : lv_has ls 8 [(0, .ref b), (1, .ref xo), (2, .ref mo), (3, .ref out), (4, .int (nI i))]) (hc9 : cells + 8 ≤ 601024) (hs9 : slots + 64 ≤ 7293034) (K : LWK p l e s mi9 belowM methM cM Q D A b i xo gg gr ce tr sh ar ti n1 l1 s2 a2 s3 a3 n2 l2 mo mw mct mp mnm m1 m2 mt mk mr ml mq out cS cS2 cG cJ1 cS3 cJ2 k1 k2 k3 k4 k5 k6 k7 k8 k9c k10 k11 cO cells slots) : W p l e room_1 s mi9 #[Value.ref b] belowM methM cM H locs cells slots Q (F0 mi9 1231 ls []) := by
  obtain ⟨hx, hb, hml, hown, hts, hX, hbl, hbA, hA, hK, hNw, hZ, hXt, hst, hL⟩ := hE
  obtain ⟨n, m, wd, ct, pa, nm, dp, ki, ea, wa, ic, lf, pt, f, fk, fc, z1, fN, z3, fr, z2, fs, th, om, tm, u1, u2, u3, u4, u5, u6, fo, hI, hfe, hfk, hP, hD, hS⟩ := hW
  have hI0 := hI
  obtain ⟨hn40, hg, hwi, hct, hpn, hun, hnm, hnz, hdp, hKN, hSR⟩ := hI0
  have hmn := kn_le hKN hSR
  have hm : m ≤ 40 := Nat.le_trans hmn hn40
  have hki : ∀ j, j < m → ki j < n := fun j h => (hKN.1 j h).1
  have hcb : ∀ k, k < n → ct k < 2 ^ 31 := fun k h => by have := hct k h; omega
  have hnb : ∀ k, k < n → nm k < 2 ^ 31 := fun k h => by have := hnm k h; omega
  have hmz : ∀ i, i < n → ct i = 0 → m < n := fun i h h0 => kn_lt hKN hSR h h0
  have hkinj := srt_inj hSR
  have hkn := hKN.2
  have heai := q_poolinj hD
  have hR0 : va_P D vwCl [] s.heap := q_Pof (fun _ h => absurd h List.not_mem_nil)
  have hR := hR0
  have hna : ∀ q ∈ ([] : va_W), ¬ A q.1 := fun q h => absurd h List.not_mem_nil
  have hnR : (([] : va_W).map (·.1)).Nodup := List.nodup_nil
  refine lv_aload_n hx hb dL_law_1231 rfl (lv_at hl 1 rfl) ?_
  refine lv_aload_n hx hb dL_law_1232 rfl (lv_at hl 0 rfl) ?_
  refine lv_iload hx hb dL_law_1233 (lv_at hl 4 rfl) ?_
  refine lv_iconst (v := nI 1) hx hb dL_law_1235 (by decide) ?_
  refine q_iadd (d := i + 1) hx hb dL_law_1236 (by omega) ?_
  refine va_sld hx hb hX hbl hbA hS (vp_in_nI (n := i + 1) (N := L) (by omega) (by omega)) dL_law_1237 ?_
  rw [nI_clamp (n := i + 1) (by omega)]
  refine lv_i2l hx hb dL_law_1238 rfl ?_
  refine lv_bipush (v := nI 32) hx hb dL_law_1239 (by decide) ?_
  refine lv_lshl hx hb dL_law_1241 rfl ?_
  refine lv_aload_n hx hb dL_law_1242 rfl (lv_at hl 0 rfl) ?_
  refine lv_iload hx hb dL_law_1243 (lv_at hl 4 rfl) ?_
  refine lv_iconst (v := nI 2) hx hb dL_law_1245 (by decide) ?_
  refine q_iadd (d := i + 2) hx hb dL_law_1246 (by omega) ?_
  refine va_sld hx hb hX hbl hbA hS (vp_in_nI (n := i + 2) (N := L) (by omega) (by omega)) dL_law_1247 ?_
  rw [nI_clamp (n := i + 2) (by omega)]
  refine lv_i2l hx hb dL_law_1248 rfl ?_
  refine lv_ldc2 (v := 4294967295) hx hb hown (hts (.constantLong RL 80 (4294967295)) (List.mem_of_getElem? (i := 7) rfl)) dL_law_1249 ?_
  refine q_cvl (show (4294967295 : Int64) = lN 4294967295 by decide) ?_
  refine lv_land hx hb dL_law_1252 ?_
  refine lv_lor hx hb dL_law_1253 ?_
  obtain ⟨a, ha, hqa⟩ := q_lN ((((xs (i + 1)).toInt64) <<< ((nI 32).toInt64 &&& 63)) ||| (((xs (i + 2)).toInt64) &&& (lN 4294967295)))
  refine q_cvl hqa ?_
  refine lv_aload_n hx hb dL_law_1254 rfl (lv_at hl 0 rfl) ?_
  refine lv_iload hx hb dL_law_1255 (lv_at hl 4 rfl) ?_
  refine lv_iconst (v := nI 3) hx hb dL_law_1257 (by decide) ?_
  refine q_iadd (d := i + 3) hx hb dL_law_1258 (by omega) ?_
  refine va_sld hx hb hX hbl hbA hS (vp_in_nI (n := i + 3) (N := L) (by omega) (by omega)) dL_law_1259 ?_
  rw [nI_clamp (n := i + 3) (by omega)]
  refine lv_aload_n hx hb dL_law_1260 rfl (lv_at hl 3 rfl) ?_
  have hF := va_free (wc := [(out, .inl (cO, 1, .inr (.inl fo))), (n1, .inr (3, [.ref l1, .int z1])), (l1, .inl (cJ1, 401, .inr (.inl fN))), (ce, .inl (cG, 121, .inl fc))]) hD hS hA [28, 8, 9, 3] rfl
  refine va_calli (vx_runSW (As := [.ref xo, .long (lN a), .int (xs (i + 3)), .ref out]) (rest := []) ⟨hx, hb, hml, hown, hts⟩ (c_L_rows (l := l) (D := D) (xo := xo) (gg := gg) (gr := gr) (ce := ce) (tr := tr) (sh := sh) (ar := ar) (ti := ti) (n1 := n1) (l1 := l1) (s2 := s2) (a2 := a2) (s3 := s3) (a3 := a3) (n2 := n2) (l2 := l2) (cS2 := cS2) (fk := fk) (m := m) (ki := ki) (ea := ea) (wa := wa) (pf := (fun k => (pa k).map ea)) (cn := nm) (dp := dp) (oc := ct) (ic := ic) (lf := lf) (pt := pt) (wd := wd) (n := n) (cG := cG) (fc := fc) (cJ1 := cJ1) (fN := fN) (z1 := z1) (a := a) (x9 := xs (i + 3)) (out := out) (cO := cO) (fo := fo) (sz := H.size) (hnd := (q_ndt (q_ndsw (q_ndg (l1 := [xo, gg, gr, ce, tr, sh, ar, ti, n1, l1, s2, a2, s3, a3, n2, l2, mo, mw, mct, mp, mnm, m1, m2, mt, mk, mr, ml, mq, out] ++ (rg ea n ++ rg wa n)) (l2 := []) hD hnR hna (by rw [List.map_append, List.map_append, EW_fst, WW_fst]; rfl) rfl)) [28, 8, 9, 3, 0, 7, 1, 2, 10, 11] rfl rfl)) (hst := hst) (ha := by omega) (hm := hm) (hf := hfk) (hki := hki) (hg := hg)) (vx_cwSW 4 hts gL_law_L_rows rfl rfl rfl (by decide +kernel) ⟨Nat.le_of_ble_eq_true rfl, Nat.le_of_ble_eq_true rfl⟩) ⟨qWx_blind, (qWx_of (va_P.app (hP.sub (ws' := [(xo, .inr (8, [.ref gg, .ref tr, .ref ti, .ref s2, .ref s3, .ref n2])), (ti, .inr (6, [.ref n1])), (gg, .inr (1, [.ref gr])), (gr, .inr (2, [.ref ce])), (s2, .inr (4, [.ref a2, .int (nI m)])), (a2, .inl (cS2, 40, .inr (.inr (.inr (.inr fk)))))]) [0, 7, 1, 2, 10, 11] rfl) (q_right hP)) (hP.sub (ws' := [(out, .inl (cO, 1, .inr (.inl fo))), (n1, .inr (3, [.ref l1, .int z1])), (l1, .inl (cJ1, 401, .inr (.inl fN))), (ce, .inl (cG, 121, .inl fc))]) [28, 8, 9, 3] rfl) (hK.sub (tys' := [(cO, .long), (cJ1, .long), (cG, .int), (cS2, .object "FuzzyFens$Entry")]) [17, 2, 0, 3] rfl) hNw (qZ_at hZ hS (fun q h => hF q h)) hXt)⟩ rfl rfl hl.1 rfl (lv_room (Nat.le_of_ble_eq_true rfl)) dL_law_1261 ⟨by show _ ≤ 601024; omega, by show _ ≤ 7293034; omega⟩) hS (fun q _ h => hF q h) hF (fun rv8 u_5 t_4 H_2 locs_3 ht hvm hrv8 hB hz1 hk1 hS => ?_)
  obtain ⟨z4_6, fN2_7, fc2_8, fo8⟩ := u_5
  dsimp only at hrv8 hB
  replace hB : va_P D vwCl [(out, .inl (cO, 1, .inr (.inl fo8))), (n1, .inr (3, [.ref l1, .int z4_6])), (l1, .inl (cJ1, 401, .inr (.inl fN2_7))), (ce, .inl (cG, 121, .inl fc2_8))] H_2 := by rw [← ht]; exact hB
  obtain ⟨hP, hD⟩ := q_join (wc := [(out, .inl (cO, 1, .inr (.inl fo))), (n1, .inr (3, [.ref l1, .int z1])), (l1, .inl (cJ1, 401, .inr (.inl fN))), (ce, .inl (cG, 121, .inl fc))]) (w1 := [(out, .inl (cO, 1, .inr (.inl fo8))), (n1, .inr (3, [.ref l1, .int z4_6])), (l1, .inl (cJ1, 401, .inr (.inl fN2_7))), (ce, .inl (cG, 121, .inl fc2_8))]) (ws' := [(xo, .inr (8, [.ref gg, .ref tr, .ref ti, .ref s2, .ref s3, .ref n2])), (gg, .inr (1, [.ref gr])), (gr, .inr (2, [.ref ce])), (ce, .inl (cG, 121, .inl fc2_8)), (tr, .inr (5, [.ref sh])), (sh, .inr (4, [.ref ar, .int (nI n)])), (ar, .inl (cS, 40, .inr (.inr (.inr (.inr f))))), (ti, .inr (6, [.ref n1])), (n1, .inr (3, [.ref l1, .int z4_6])), (l1, .inl (cJ1, 401, .inr (.inl fN2_7))), (s2, .inr (4, [.ref a2, .int (nI m)])), (a2, .inl (cS2, 40, .inr (.inr (.inr (.inr fk))))), (s3, .inr (4, [.ref a3, .int z3])), (a3, .inl (cS3, 40, .inr (.inr (.inr (.inr fr))))), (n2, .inr (3, [.ref l2, .int z2])), (l2, .inl (cJ2, 56, .inr (.inl fs))), (mo, .inr (9, [.int th, .int (nI n), .ref mw, .ref mct, .ref mp, .ref mnm, .ref m1, .ref m2, .int om, .int tm, .ref mt, .ref mk, .ref mr, .ref ml, .ref mq])), (mw, .inl (k1, 40, .inr (.inl (fun k9 => lN (wd k9))))), (mct, .inl (k2, 40, .inl (fun k9 => nI (ct k9)))), (mp, .inl (k3, 40, .inl (fun k9 => pin (pa k9)))), (mnm, .inl (k4, 40, .inl (fun k9 => nI (nm k9)))), (m1, .inl (k5, 11, .inl u1)), (m2, .inl (k6, 11, .inl u2)), (mt, .inl (k7, 121, .inl u3)), (mk, .inl (k8, 27, .inl (fun k9 => nI (kyf k9)))), (mr, .inl (k9c, 401, .inr (.inl u4))), (ml, .inl (k10, 64, .inr (.inl u5))), (mq, .inl (k11, 64, .inr (.inl u6))), (out, .inl (cO, 1, .inr (.inl fo8)))] ++ (EW ea wa (fun k => (pa k).map ea) nm dp ct ic lf pt n ++ WW wa wd n)) [28, 8, 9, 3] hP hD rfl rfl hk1 hB rfl
  have hR := q_ro hR0 hna hS
  have hF8 := hrv8
  refine lv_istore (lv' := [(5, .int rv8), (0, .ref b), (1, .ref xo), (2, .ref mo), (3, .ref out), (4, .int (nI i))]) hx hb dL_law_1264 hl (by decide) rfl (fun ls hl => ?_)
  refine lv_aload_n hx hb dL_law_1266 rfl (lv_at hl 3 rfl) ?_
  refine lv_aload_n hx hb dL_law_1267 rfl (lv_at hl 1 rfl) ?_
  refine lv_iload hx hb dL_law_1268 (lv_at hl 5 rfl) ?_
  refine lv_iconst (v := nI 1) hx hb dL_law_1270 (by decide) ?_
  refine q_iadd (d := i + 1) hx hb dL_law_1271 (by omega) ?_
  refine va_sld hx hb hX hbl hbA hS (vp_in_nI (n := i + 1) (N := L) (by omega) (by omega)) dL_law_1272 ?_
  rw [nI_clamp (n := i + 1) (by omega)]
  refine lv_i2l hx hb dL_law_1273 rfl ?_
  refine lv_bipush (v := nI 32) hx hb dL_law_1274 (by decide) ?_
  refine lv_lshl hx hb dL_law_1276 rfl ?_
  refine lv_aload_n hx hb dL_law_1277 rfl (lv_at hl 1 rfl) ?_
  refine lv_iload hx hb dL_law_1278 (lv_at hl 5 rfl) ?_
  refine lv_iconst (v := nI 2) hx hb dL_law_1280 (by decide) ?_
  refine q_iadd (d := i + 2) hx hb dL_law_1281 (by omega) ?_
  refine va_sld hx hb hX hbl hbA hS (vp_in_nI (n := i + 2) (N := L) (by omega) (by omega)) dL_law_1282 ?_
  rw [nI_clamp (n := i + 2) (by omega)]
  refine lv_i2l hx hb dL_law_1283 rfl ?_
  refine lv_ldc2 (v := 4294967295) hx hb hown (hts (.constantLong RL 80 (4294967295)) (List.mem_of_getElem? (i := 7) rfl)) dL_law_1284 ?_
  refine q_cvl (show (4294967295 : Int64) = lN 4294967295 by decide) ?_
  refine lv_land hx hb dL_law_1287 ?_
  refine lv_lor hx hb dL_law_1288 ?_
  refine q_cvl hqa ?_
  refine lv_aload_n hx hb dL_law_1289 rfl (lv_at hl 1 rfl) ?_
  refine lv_iload hx hb dL_law_1290 (lv_at hl 5 rfl) ?_
  refine lv_iconst (v := nI 3) hx hb dL_law_1292 (by decide) ?_
  refine q_iadd (d := i + 3) hx hb dL_law_1293 (by omega) ?_
  refine va_sld hx hb hX hbl hbA hS (vp_in_nI (n := i + 3) (N := L) (by omega) (by omega)) dL_law_1294 ?_
  rw [nI_clamp (n := i + 3) (by omega)]
  have hF := va_free (wc := [(mo, .inr (9, [.int th, .int (nI n), .ref mw, .ref mct, .ref mp, .ref mnm, .ref m1, .ref m2, .int om, .int tm, .ref mt, .ref mk, .ref mr, .ref ml, .ref mq])), (m1, .inl (k5, 11, .inl u1)), (m2, .inl (k6, 11, .inl u2)), (mt, .inl (k7, 121, .inl u3)), (mr, .inl (k9c, 401, .inr (.inl u4)))]) hD hS hA [16, 21, 22, 23, 25] rfl
  refine va_calli (va_runV (As := [.long (lN a), .int (xs (i + 3))]) (rest := []) ⟨hx, hb, hml, hown, hts⟩ (c_X10_rows (l := l) (D := D) (mo := mo) (mw := mw) (mct := mct) (mp := mp) (mnm := mnm) (m1 := m1) (m2 := m2) (mt := mt) (mk := mk) (mr := mr) (ml := ml) (mq := mq) (k1 := k1) (k2 := k2) (k5 := k5) (k6 := k6) (k7 := k7) (k9c := k9c) (th := th) (n := n) (om := om) (tm := tm) (f1 := u1) (f2 := u2) (ft := u3) (fr := u4) (wd := wd) (ct := ct) (a := a) (x9 := xs (i + 3)) (sz := H_2.size) (hnd := (q_nds (q_ndl (q_ndsw (q_ndg (l1 := [xo, gg, gr, ce, tr, sh, ar, ti, n1, l1, s2, a2, s3, a3, n2, l2, mo, mw, mct, mp, mnm, m1, m2, mt, mk, mr, ml, mq, out] ++ (rg ea n ++ rg wa n)) (l2 := []) hD hnR hna (by rw [List.map_append, List.map_append, EW_fst, WW_fst]; rfl) rfl))) [16, 21, 22, 23, 25, 17, 18] rfl rfl)) (ha := by omega) (hn40 := hn40) (hgw := hg) (hcb := hcb)) (cwV 2 hts gL_law_X10_rows rfl rfl rfl (by decide +kernel) ⟨Nat.le_of_ble_eq_true rfl, Nat.le_of_ble_eq_true rfl⟩) ⟨qW_blind, (va_recv hK hP (ci := 9) (q0 := 16) rfl rfl), (qW_of (hP.sub (ws' := [(mw, .inl (k1, 40, .inr (.inl (fun k9 => lN (wd k9))))), (mct, .inl (k2, 40, .inl (fun k9 => nI (ct k9))))]) [17, 18] rfl) (hP.sub (ws' := [(mo, .inr (9, [.int th, .int (nI n), .ref mw, .ref mct, .ref mp, .ref mnm, .ref m1, .ref m2, .int om, .int tm, .ref mt, .ref mk, .ref mr, .ref ml, .ref mq])), (m1, .inl (k5, 11, .inl u1)), (m2, .inl (k6, 11, .inl u2)), (mt, .inl (k7, 121, .inl u3)), (mr, .inl (k9c, 401, .inr (.inl u4)))]) [16, 21, 22, 23, 25] rfl) (hK.sub (tys' := [(k5, .int), (k6, .int), (k7, .int), (k9c, .long), (k1, .long), (k2, .int)]) [10, 11, 12, 14, 6, 7] rfl) hNw)⟩ rfl rfl hl.1 rfl (lv_room (Nat.le_of_ble_eq_true rfl)) dL_law_1295 ⟨by show _ ≤ 601024; omega, by show _ ≤ 7293034; omega⟩) hS (fun q _ h => hF q h) hF (fun rb8 u_13 t_12 H_10 locs_11 ht hvm hrb8 hB hz1 hk1 hS => ?_)
  obtain ⟨t8, o2_14, q2_15, g1_16, g2_17, g3_18, g4_19⟩ := u_13
  dsimp only at hrb8 hB
  replace hB : va_P D vwCl [(mo, .inr (9, [.int t8, .int (nI n), .ref mw, .ref mct, .ref mp, .ref mnm, .ref m1, .ref m2, .int o2_14, .int q2_15, .ref mt, .ref mk, .ref mr, .ref ml, .ref mq])), (m1, .inl (k5, 11, .inl g1_16)), (m2, .inl (k6, 11, .inl g2_17)), (mt, .inl (k7, 121, .inl g3_18)), (mr, .inl (k9c, 401, .inr (.inl g4_19)))] H_10 := by rw [← ht]; exact hB
  obtain ⟨hP, hD⟩ := q_join (wc := [(mo, .inr (9, [.int th, .int (nI n), .ref mw, .ref mct, .ref mp, .ref mnm, .ref m1, .ref m2, .int om, .int tm, .ref mt, .ref mk, .ref mr, .ref ml, .ref mq])), (m1, .inl (k5, 11, .inl u1)), (m2, .inl (k6, 11, .inl u2)), (mt, .inl (k7, 121, .inl u3)), (mr, .inl (k9c, 401, .inr (.inl u4)))]) (w1 := [(mo, .inr (9, [.int t8, .int (nI n), .ref mw, .ref mct, .ref mp, .ref mnm, .ref m1, .ref m2, .int o2_14, .int q2_15, .ref mt, .ref mk, .ref mr, .ref ml, .ref mq])), (m1, .inl (k5, 11, .inl g1_16)), (m2, .inl (k6, 11, .inl g2_17)), (mt, .inl (k7, 121, .inl g3_18)), (mr, .inl (k9c, 401, .inr (.inl g4_19)))]) (ws' := [(xo, .inr (8, [.ref gg, .ref tr, .ref ti, .ref s2, .ref s3, .ref n2])), (gg, .inr (1, [.ref gr])), (gr, .inr (2, [.ref ce])), (ce, .inl (cG, 121, .inl fc2_8)), (tr, .inr (5, [.ref sh])), (sh, .inr (4, [.ref ar, .int (nI n)])), (ar, .inl (cS, 40, .inr (.inr (.inr (.inr f))))), (ti, .inr (6, [.ref n1])), (n1, .inr (3, [.ref l1, .int z4_6])), (l1, .inl (cJ1, 401, .inr (.inl fN2_7))), (s2, .inr (4, [.ref a2, .int (nI m)])), (a2, .inl (cS2, 40, .inr (.inr (.inr (.inr fk))))), (s3, .inr (4, [.ref a3, .int z3])), (a3, .inl (cS3, 40, .inr (.inr (.inr (.inr fr))))), (n2, .inr (3, [.ref l2, .int z2])), (l2, .inl (cJ2, 56, .inr (.inl fs))), (mo, .inr (9, [.int t8, .int (nI n), .ref mw, .ref mct, .ref mp, .ref mnm, .ref m1, .ref m2, .int o2_14, .int q2_15, .ref mt, .ref mk, .ref mr, .ref ml, .ref mq])), (mw, .inl (k1, 40, .inr (.inl (fun k9 => lN (wd k9))))), (mct, .inl (k2, 40, .inl (fun k9 => nI (ct k9)))), (mp, .inl (k3, 40, .inl (fun k9 => pin (pa k9)))), (mnm, .inl (k4, 40, .inl (fun k9 => nI (nm k9)))), (m1, .inl (k5, 11, .inl g1_16)), (m2, .inl (k6, 11, .inl g2_17)), (mt, .inl (k7, 121, .inl g3_18)), (mk, .inl (k8, 27, .inl (fun k9 => nI (kyf k9)))), (mr, .inl (k9c, 401, .inr (.inl g4_19))), (ml, .inl (k10, 64, .inr (.inl u5))), (mq, .inl (k11, 64, .inr (.inl u6))), (out, .inl (cO, 1, .inr (.inl fo8)))] ++ (EW ea wa (fun k => (pa k).map ea) nm dp ct ic lf pt n ++ WW wa wd n)) [16, 21, 22, 23, 25] hP hD rfl rfl hk1 hB rfl
  have hR := q_ro hR0 hna hS
  obtain ⟨g80, g81⟩ := hrb8
  have hE : t8 = rv8 ∧ (rv8 = 0 → fo8 0 = (rb8).toInt64) := q_hv1 hF8 g80 (fun h9 => by rw [g81 h9, rows_eq hg hKN (by exact kz_le (by decide) h9.2.1 h9.2.2)])
  refine lv_istore (lv' := [(6, .int rb8), (5, .int rv8), (0, .ref b), (1, .ref xo), (2, .ref mo), (3, .ref out), (4, .int (nI i))]) hx hb dL_law_1298 hl (by decide) rfl (fun ls hl => ?_)
  refine lv_aload_n hx hb dL_law_1300 rfl (lv_at hl 4 rfl) ?_
  refine vp_callSi (W.runV (As := []) (rest := []) ⟨hx, hb, hml, hown, hts⟩ (c_X10_thrown (l := l) (D := D) (mo := mo) (mw := mw) (mct := mct) (mp := mp) (mnm := mnm) (m1 := m1) (m2 := m2) (mt := mt) (mk := mk) (mr := mr) (ml := ml) (mq := mq) (th := t8) (n := n) (om := o2_14) (tm := q2_15) ) (cwV 0 hts gL_law_X10_thrown rfl rfl rfl (by decide +kernel) ⟨Nat.le_of_ble_eq_true rfl, Nat.le_of_ble_eq_true rfl⟩) ⟨qP_blind, (va_recv hK hP (ci := 9) (q0 := 16) rfl rfl), (qP_of (hP.sub (ws' := [(mo, .inr (9, [.int t8, .int (nI n), .ref mw, .ref mct, .ref mp, .ref mnm, .ref m1, .ref m2, .int o2_14, .int q2_15, .ref mt, .ref mk, .ref mr, .ref ml, .ref mq]))]) [16] rfl) (hK.sub (tys' := []) [] rfl) hNw)⟩ rfl rfl hl.1 rfl (lv_room (Nat.le_of_ble_eq_true rfl)) dL_law_1301 ⟨by show _ ≤ 601024; omega, by show _ ≤ 7293034; omega⟩) (fun r_20 hr_20 => ?_)
  have hr_20 := hr_20.symm
  subst hr_20
  refine lv_iload hx hb dL_law_1304 (lv_at hl 1 rfl) ?_
  refine lv_icmp_eq (tgt := 1311) hx hb dL_law_1306 (by decide) (fun c_1306 => ?_) (fun c_1306 => False.elim (by exact c_1306 hE.1))
  refine lv_iload hx hb dL_law_1311 (lv_at hl 1 rfl) ?_
  refine lv_if_ne (tgt := 1328) hx hb dL_law_1313 (by decide) (fun c_1313 => ?_) (fun c_1313 => ?_)
  · skip
    refine lv_goto (tgt := 1919) hx hb dL_law_1328 (by decide) ?_
    exact K _ _ _ _ _ ⟨n, m, wd, ct, pa, nm, dp, ki, ea, wa, ic, lf, pt, f, fk, fc2_8, z4_6, fN2_7, z3, fr, z2, fs, t8, o2_14, q2_15, g1_16, g2_17, g3_18, g4_19, u5, u6, fo8, hI, hfe, hfk, hP, hD, hS⟩ (lv_sub hl [2, 3, 4, 5, 6] rfl) (by omega) (by omega)
  · skip
    refine lv_aload_n hx hb dL_law_1316 rfl (lv_at hl 5 rfl) ?_
    refine lv_iconst (v := nI 0) hx hb dL_law_1317 (by decide) ?_
    refine va_lald (D := D) hx hb hK hP 28 17 rfl rfl (vp_in_nI (n := 0) (N := 1) (by omega) (by decide)) dL_law_1318 ?_
    rw [nI_clamp (n := 0) (by omega)]
    refine lv_iload hx hb dL_law_1319 (lv_at hl 0 rfl) ?_
    refine lv_i2l hx hb dL_law_1321 rfl ?_
    refine W.lcmp hx hb dL_law_1322 ?_
    refine q_lr_eq (tgt := 1328) hx hb dL_law_1323 (by decide) (fun c_1323 => ?_) (fun c_1323 => False.elim (by exact c_1323 (hE.2 c_1313)))
    refine lv_goto (tgt := 1919) hx hb dL_law_1328 (by decide) ?_
    exact K _ _ _ _ _ ⟨n, m, wd, ct, pa, nm, dp, ki, ea, wa, ic, lf, pt, f, fk, fc2_8, z4_6, fN2_7, z3, fr, z2, fs, t8, o2_14, q2_15, g1_16, g2_17, g3_18, g4_19, u5, u6, fo8, hI, hfe, hfk, hP, hD, hS⟩ (lv_sub hl [2, 3, 4, 5, 6] rfl) (by omega) (by omega)

set_option maxHeartbeats 4000000 in
set_option maxRecDepth 100000 in
/-- treeNodes -/
theorem lw_c1331 {p : Program} {l : Launch} {e : Env} {s : State} {mi9 : MethodId} {belowM : List Frame} {methM : Method} {cM : Code} {Q : State → Prop} {D : va_G} {A : Nat → Prop} {b L i : Nat} {xs : Nat → Int32} {xo gg gr ce tr sh ar ti n1 l1 s2 a2 s3 a3 n2 l2 mo mw mct mp mnm m1 m2 mt mk mr ml mq out : Nat} {cS cS2 cG cJ1 cS3 cJ2 k1 k2 k3 k4 k5 k6 k7 k8 k9c k10 k11 cO : ClassId} {H : Heap} {locs : List Loc} {ls : Array Slot} {cells slots : Nat} (hE : LWE p l s mi9 cM D A b L xs [(cG, .int), (cS, .object "FuzzyFens$Entry"), (cJ1, .long), (cS2, .object "FuzzyFens$Entry"), (cS3, .object "FuzzyFens$Entry"), (cJ2, .long), (k1, .long), (k2, .int), (k3, .int), (k4, .int), (k5, .int), (k6, .int), (k7, .int), (k8, .int), (k9c, .long), (k10, .long), (k11, .long), (cO, .long)]) (hi : i + 5 ≤ L) (hW : LWI D s A xo gg gr ce tr sh ar ti n1 l1 s2 a2 s3 a3 n2 l2 mo mw mct mp mnm m1 m2 mt mk mr ml mq out cS cS2 cG cJ1 cS3 cJ2 k1 k2 k3 k4 k5 k6 k7 k8 k9c k10 k11 cO H locs) (hl : lv_has ls 8 [(0, .ref b), (1, .ref xo), (2, .ref mo), (3, .ref out), (4, .int (nI i))]) (hc9 : cells + 8 ≤ 601024) (hs9 : slots + 64 ≤ 7293034) (K : LWK p l e s mi9 belowM methM cM Q D A b i xo gg gr ce tr sh ar ti n1 l1 s2 a2 s3 a3 n2 l2 mo mw mct mp mnm m1 m2 mt mk mr ml mq out cS cS2 cG cJ1 cS3 cJ2 k1 k2 k3 k4 k5 k6 k7 k8 k9c k10 k11 cO cells slots) : W p l e room_1 s mi9 #[Value.ref b] belowM methM cM H locs cells slots Q (F0 mi9 1331 ls []) := by
  obtain ⟨hx, hb, hml, hown, hts, hX, hbl, hbA, hA, hK, hNw, hZ, hXt, hst, hL⟩ := hE
  obtain ⟨n, m, wd, ct, pa, nm, dp, ki, ea, wa, ic, lf, pt, f, fk, fc, z1, fN, z3, fr, z2, fs, th, om, tm, u1, u2, u3, u4, u5, u6, fo, hI, hfe, hfk, hP, hD, hS⟩ := hW
  have hI0 := hI
  obtain ⟨hn40, hg, hwi, hct, hpn, hun, hnm, hnz, hdp, hKN, hSR⟩ := hI0
  have hmn := kn_le hKN hSR
  have hm : m ≤ 40 := Nat.le_trans hmn hn40
  have hki : ∀ j, j < m → ki j < n := fun j h => (hKN.1 j h).1
  have hcb : ∀ k, k < n → ct k < 2 ^ 31 := fun k h => by have := hct k h; omega
  have hnb : ∀ k, k < n → nm k < 2 ^ 31 := fun k h => by have := hnm k h; omega
  have hmz : ∀ i, i < n → ct i = 0 → m < n := fun i h h0 => kn_lt hKN hSR h h0
  have hkinj := srt_inj hSR
  have hkn := hKN.2
  have heai := q_poolinj hD
  have hR0 : va_P D vwCl [] s.heap := q_Pof (fun _ h => absurd h List.not_mem_nil)
  have hR := hR0
  have hna : ∀ q ∈ ([] : va_W), ¬ A q.1 := fun q h => absurd h List.not_mem_nil
  have hnR : (([] : va_W).map (·.1)).Nodup := List.nodup_nil
  refine lv_aload_n hx hb dL_law_1331 rfl (lv_at hl 1 rfl) ?_
  refine vp_callSi (W.runV (As := []) (rest := []) ⟨hx, hb, hml, hown, hts⟩ (c_X9_treeNodes (l := l) (D := D) (xo := xo) (gg := gg) (gr := gr) (ce := ce) (tr := tr) (sh := sh) (ar := ar) (ti := ti) (n1 := n1) (l1 := l1) (s2 := s2) (a2 := a2) (s3 := s3) (a3 := a3) (n2 := n2) (l2 := l2) (n := n) ) (cwV 0 hts gL_law_X9_treeNodes rfl rfl rfl (by decide +kernel) ⟨Nat.le_of_ble_eq_true rfl, Nat.le_of_ble_eq_true rfl⟩) ⟨qP_blind, (va_recv hK hP (ci := 8) (q0 := 0) rfl rfl), (qP_of (hP.sub (ws' := [(xo, .inr (8, [.ref gg, .ref tr, .ref ti, .ref s2, .ref s3, .ref n2])), (tr, .inr (5, [.ref sh])), (sh, .inr (4, [.ref ar, .int (nI n)]))]) [0, 4, 5] rfl) (hK.sub (tys' := []) [] rfl) hNw)⟩ rfl rfl hl.1 rfl (lv_room (Nat.le_of_ble_eq_true rfl)) dL_law_1332 ⟨by show _ ≤ 601024; omega, by show _ ≤ 7293034; omega⟩) (fun r_1 hr_1 => ?_)
  subst hr_1
  refine lv_aload_n hx hb dL_law_1335 rfl (lv_at hl 2 rfl) ?_
  have hF := va_free (wc := [(mo, .inr (9, [.int th, .int (nI n), .ref mw, .ref mct, .ref mp, .ref mnm, .ref m1, .ref m2, .int om, .int tm, .ref mt, .ref mk, .ref mr, .ref ml, .ref mq]))]) hD hS hA [16] rfl
  refine va_calli (va_runV (As := []) (rest := [.int (nI n)]) ⟨hx, hb, hml, hown, hts⟩ (c_X10_treeNodes (l := l) (D := D) (mo := mo) (mw := mw) (mct := mct) (mp := mp) (mnm := mnm) (m1 := m1) (m2 := m2) (mt := mt) (mk := mk) (mr := mr) (ml := ml) (mq := mq) (th := th) (n := n) (om := om) (tm := tm) (sz := H.size) (hnd := (q_nds (q_ndl (q_ndsw (q_ndg (l1 := [xo, gg, gr, ce, tr, sh, ar, ti, n1, l1, s2, a2, s3, a3, n2, l2, mo, mw, mct, mp, mnm, m1, m2, mt, mk, mr, ml, mq, out] ++ (rg ea n ++ rg wa n)) (l2 := []) hD hnR hna (by rw [List.map_append, List.map_append, EW_fst, WW_fst]; rfl) rfl))) [16] rfl rfl)) ) (cwV 0 hts gL_law_X10_treeNodes rfl rfl rfl (by decide +kernel) ⟨Nat.le_of_ble_eq_true rfl, Nat.le_of_ble_eq_true rfl⟩) ⟨qW_blind, (va_recv hK hP (ci := 9) (q0 := 16) rfl rfl), (qW_of (q_Pof (fun _ h => absurd h List.not_mem_nil)) (hP.sub (ws' := [(mo, .inr (9, [.int th, .int (nI n), .ref mw, .ref mct, .ref mp, .ref mnm, .ref m1, .ref m2, .int om, .int tm, .ref mt, .ref mk, .ref mr, .ref ml, .ref mq]))]) [16] rfl) (hK.sub (tys' := []) [] rfl) hNw)⟩ rfl rfl hl.1 rfl (lv_room (Nat.le_of_ble_eq_true rfl)) dL_law_1336 ⟨by show _ ≤ 601024; omega, by show _ ≤ 7293034; omega⟩) hS (fun q _ h => hF q h) hF (fun r_2 u_6 t_5 H_3 locs_4 ht hvm hr_2 hB hz1 hk1 hS => ?_)
  replace hB : va_P D vwCl [(mo, .inr (9, [.int (nI 0), .int (nI n), .ref mw, .ref mct, .ref mp, .ref mnm, .ref m1, .ref m2, .int om, .int tm, .ref mt, .ref mk, .ref mr, .ref ml, .ref mq]))] H_3 := by rw [← ht]; exact hB
  obtain ⟨hP, hD⟩ := q_join (wc := [(mo, .inr (9, [.int th, .int (nI n), .ref mw, .ref mct, .ref mp, .ref mnm, .ref m1, .ref m2, .int om, .int tm, .ref mt, .ref mk, .ref mr, .ref ml, .ref mq]))]) (w1 := [(mo, .inr (9, [.int (nI 0), .int (nI n), .ref mw, .ref mct, .ref mp, .ref mnm, .ref m1, .ref m2, .int om, .int tm, .ref mt, .ref mk, .ref mr, .ref ml, .ref mq]))]) (ws' := [(xo, .inr (8, [.ref gg, .ref tr, .ref ti, .ref s2, .ref s3, .ref n2])), (gg, .inr (1, [.ref gr])), (gr, .inr (2, [.ref ce])), (ce, .inl (cG, 121, .inl fc)), (tr, .inr (5, [.ref sh])), (sh, .inr (4, [.ref ar, .int (nI n)])), (ar, .inl (cS, 40, .inr (.inr (.inr (.inr f))))), (ti, .inr (6, [.ref n1])), (n1, .inr (3, [.ref l1, .int z1])), (l1, .inl (cJ1, 401, .inr (.inl fN))), (s2, .inr (4, [.ref a2, .int (nI m)])), (a2, .inl (cS2, 40, .inr (.inr (.inr (.inr fk))))), (s3, .inr (4, [.ref a3, .int z3])), (a3, .inl (cS3, 40, .inr (.inr (.inr (.inr fr))))), (n2, .inr (3, [.ref l2, .int z2])), (l2, .inl (cJ2, 56, .inr (.inl fs))), (mo, .inr (9, [.int (nI 0), .int (nI n), .ref mw, .ref mct, .ref mp, .ref mnm, .ref m1, .ref m2, .int om, .int tm, .ref mt, .ref mk, .ref mr, .ref ml, .ref mq])), (mw, .inl (k1, 40, .inr (.inl (fun k9 => lN (wd k9))))), (mct, .inl (k2, 40, .inl (fun k9 => nI (ct k9)))), (mp, .inl (k3, 40, .inl (fun k9 => pin (pa k9)))), (mnm, .inl (k4, 40, .inl (fun k9 => nI (nm k9)))), (m1, .inl (k5, 11, .inl u1)), (m2, .inl (k6, 11, .inl u2)), (mt, .inl (k7, 121, .inl u3)), (mk, .inl (k8, 27, .inl (fun k9 => nI (kyf k9)))), (mr, .inl (k9c, 401, .inr (.inl u4))), (ml, .inl (k10, 64, .inr (.inl u5))), (mq, .inl (k11, 64, .inr (.inl u6))), (out, .inl (cO, 1, .inr (.inl fo)))] ++ (EW ea wa (fun k => (pa k).map ea) nm dp ct ic lf pt n ++ WW wa wd n)) [16] hP hD rfl rfl hk1 hB rfl
  have hR := q_ro hR0 hna hS
  subst hr_2
  refine q_icmp_eq (a := n) (b := n) (tgt := 1919) hx hb dL_law_1339 (by decide) (by omega) (by omega) (fun c_1339 => ?_) (fun c_1339 => False.elim (by exact c_1339 rfl))
  exact K _ _ _ _ _ ⟨n, m, wd, ct, pa, nm, dp, ki, ea, wa, ic, lf, pt, f, fk, fc, z1, fN, z3, fr, z2, fs, nI 0, om, tm, u1, u2, u3, u4, u5, u6, fo, hI, hfe, hfk, hP, hD, hS⟩ (lv_sub hl [0, 1, 2, 3, 4] rfl) (by omega) (by omega)

set_option maxHeartbeats 4000000 in
set_option maxRecDepth 100000 in
/-- treeDepth -/
theorem lw_c1344 {p : Program} {l : Launch} {e : Env} {s : State} {mi9 : MethodId} {belowM : List Frame} {methM : Method} {cM : Code} {Q : State → Prop} {D : va_G} {A : Nat → Prop} {b L i : Nat} {xs : Nat → Int32} {xo gg gr ce tr sh ar ti n1 l1 s2 a2 s3 a3 n2 l2 mo mw mct mp mnm m1 m2 mt mk mr ml mq out : Nat} {cS cS2 cG cJ1 cS3 cJ2 k1 k2 k3 k4 k5 k6 k7 k8 k9c k10 k11 cO : ClassId} {H : Heap} {locs : List Loc} {ls : Array Slot} {cells slots : Nat} (hE : LWE p l s mi9 cM D A b L xs [(cG, .int), (cS, .object "FuzzyFens$Entry"), (cJ1, .long), (cS2, .object "FuzzyFens$Entry"), (cS3, .object "FuzzyFens$Entry"), (cJ2, .long), (k1, .long), (k2, .int), (k3, .int), (k4, .int), (k5, .int), (k6, .int), (k7, .int), (k8, .int), (k9c, .long), (k10, .long), (k11, .long), (cO, .long)]) (hi : i + 5 ≤ L) (hW : LWI D s A xo gg gr ce tr sh ar ti n1 l1 s2 a2 s3 a3 n2 l2 mo mw mct mp mnm m1 m2 mt mk mr ml mq out cS cS2 cG cJ1 cS3 cJ2 k1 k2 k3 k4 k5 k6 k7 k8 k9c k10 k11 cO H locs) (hl : lv_has ls 8 [(0, .ref b), (1, .ref xo), (2, .ref mo), (3, .ref out), (4, .int (nI i))]) (hc9 : cells + 8 ≤ 601024) (hs9 : slots + 64 ≤ 7293034) (K : LWK p l e s mi9 belowM methM cM Q D A b i xo gg gr ce tr sh ar ti n1 l1 s2 a2 s3 a3 n2 l2 mo mw mct mp mnm m1 m2 mt mk mr ml mq out cS cS2 cG cJ1 cS3 cJ2 k1 k2 k3 k4 k5 k6 k7 k8 k9c k10 k11 cO cells slots) : W p l e room_1 s mi9 #[Value.ref b] belowM methM cM H locs cells slots Q (F0 mi9 1344 ls []) := by
  obtain ⟨hx, hb, hml, hown, hts, hX, hbl, hbA, hA, hK, hNw, hZ, hXt, hst, hL⟩ := hE
  obtain ⟨n, m, wd, ct, pa, nm, dp, ki, ea, wa, ic, lf, pt, f, fk, fc, z1, fN, z3, fr, z2, fs, th, om, tm, u1, u2, u3, u4, u5, u6, fo, hI, hfe, hfk, hP, hD, hS⟩ := hW
  have hI0 := hI
  obtain ⟨hn40, hg, hwi, hct, hpn, hun, hnm, hnz, hdp, hKN, hSR⟩ := hI0
  have hmn := kn_le hKN hSR
  have hm : m ≤ 40 := Nat.le_trans hmn hn40
  have hki : ∀ j, j < m → ki j < n := fun j h => (hKN.1 j h).1
  have hcb : ∀ k, k < n → ct k < 2 ^ 31 := fun k h => by have := hct k h; omega
  have hnb : ∀ k, k < n → nm k < 2 ^ 31 := fun k h => by have := hnm k h; omega
  have hmz : ∀ i, i < n → ct i = 0 → m < n := fun i h h0 => kn_lt hKN hSR h h0
  have hkinj := srt_inj hSR
  have hkn := hKN.2
  have heai := q_poolinj hD
  have hR0 : va_P D vwCl [] s.heap := q_Pof (fun _ h => absurd h List.not_mem_nil)
  have hR := hR0
  have hna : ∀ q ∈ ([] : va_W), ¬ A q.1 := fun q h => absurd h List.not_mem_nil
  have hnR : (([] : va_W).map (·.1)).Nodup := List.nodup_nil
  refine lv_aload_n hx hb dL_law_1344 rfl (lv_at hl 1 rfl) ?_
  refine lv_aload_n hx hb dL_law_1345 rfl (lv_at hl 0 rfl) ?_
  refine lv_iload hx hb dL_law_1346 (lv_at hl 4 rfl) ?_
  refine lv_iconst (v := nI 1) hx hb dL_law_1348 (by decide) ?_
  refine q_iadd (d := i + 1) hx hb dL_law_1349 (by omega) ?_
  refine va_sld hx hb hX hbl hbA hS (vp_in_nI (n := i + 1) (N := L) (by omega) (by omega)) dL_law_1350 ?_
  rw [nI_clamp (n := i + 1) (by omega)]
  refine lv_i2l hx hb dL_law_1351 rfl ?_
  refine lv_bipush (v := nI 32) hx hb dL_law_1352 (by decide) ?_
  refine lv_lshl hx hb dL_law_1354 rfl ?_
  refine lv_aload_n hx hb dL_law_1355 rfl (lv_at hl 0 rfl) ?_
  refine lv_iload hx hb dL_law_1356 (lv_at hl 4 rfl) ?_
  refine lv_iconst (v := nI 2) hx hb dL_law_1358 (by decide) ?_
  refine q_iadd (d := i + 2) hx hb dL_law_1359 (by omega) ?_
  refine va_sld hx hb hX hbl hbA hS (vp_in_nI (n := i + 2) (N := L) (by omega) (by omega)) dL_law_1360 ?_
  rw [nI_clamp (n := i + 2) (by omega)]
  refine lv_i2l hx hb dL_law_1361 rfl ?_
  refine lv_ldc2 (v := 4294967295) hx hb hown (hts (.constantLong RL 80 (4294967295)) (List.mem_of_getElem? (i := 7) rfl)) dL_law_1362 ?_
  refine q_cvl (show (4294967295 : Int64) = lN 4294967295 by decide) ?_
  refine lv_land hx hb dL_law_1365 ?_
  refine lv_lor hx hb dL_law_1366 ?_
  obtain ⟨a, ha, hqa⟩ := q_lN ((((xs (i + 1)).toInt64) <<< ((nI 32).toInt64 &&& 63)) ||| (((xs (i + 2)).toInt64) &&& (lN 4294967295)))
  refine q_cvl hqa ?_
  refine lv_aload_n hx hb dL_law_1367 rfl (lv_at hl 3 rfl) ?_
  have hF := va_free (wc := [(out, .inl (cO, 1, .inr (.inl fo)))]) hD hS hA [28] rfl
  refine va_calli (vx_runSW (As := [.ref xo, .long (lN a), .ref out]) (rest := []) ⟨hx, hb, hml, hown, hts⟩ (c_L_treeDepth (l := l) (D := D) (xo := xo) (gg := gg) (gr := gr) (ce := ce) (tr := tr) (sh := sh) (ar := ar) (ti := ti) (n1 := n1) (l1 := l1) (s2 := s2) (a2 := a2) (s3 := s3) (a3 := a3) (n2 := n2) (l2 := l2) (cS := cS) (f := f) (ea := ea) (wa := wa) (pf := (fun k => (pa k).map ea)) (cn := nm) (dp := dp) (oc := ct) (ic := ic) (lf := lf) (pt := pt) (wd := wd) (n := n) (a := a) (out := out) (cO := cO) (fo := fo) (sz := H.size) (hnd := (q_ndt (q_ndsw (q_ndg (l1 := [xo, gg, gr, ce, tr, sh, ar, ti, n1, l1, s2, a2, s3, a3, n2, l2, mo, mw, mct, mp, mnm, m1, m2, mt, mk, mr, ml, mq, out] ++ (rg ea n ++ rg wa n)) (l2 := []) hD hnR hna (by rw [List.map_append, List.map_append, EW_fst, WW_fst]; rfl) rfl)) [28, 0, 4, 5, 6] rfl rfl)) (hst := hst) (ha := by omega) (hfe := hfe) (hn40 := hn40) (hg := hg)) (vx_cwSW 3 hts gL_law_L_treeDepth rfl rfl rfl (by decide +kernel) ⟨Nat.le_of_ble_eq_true rfl, Nat.le_of_ble_eq_true rfl⟩) ⟨qWx_blind, (qWx_of (va_P.app (hP.sub (ws' := [(xo, .inr (8, [.ref gg, .ref tr, .ref ti, .ref s2, .ref s3, .ref n2])), (tr, .inr (5, [.ref sh])), (sh, .inr (4, [.ref ar, .int (nI n)])), (ar, .inl (cS, 40, .inr (.inr (.inr (.inr f)))))]) [0, 4, 5, 6] rfl) (q_right hP)) (hP.sub (ws' := [(out, .inl (cO, 1, .inr (.inl fo)))]) [28] rfl) (hK.sub (tys' := [(cO, .long), (cS, .object "FuzzyFens$Entry")]) [17, 1] rfl) hNw (qZ_at hZ hS (fun q h => hF q h)) hXt)⟩ rfl rfl hl.1 rfl (lv_room (Nat.le_of_ble_eq_true rfl)) dL_law_1368 ⟨by show _ ≤ 601024; omega, by show _ ≤ 7293034; omega⟩) hS (fun q _ h => hF q h) hF (fun rv8 u_5 t_4 H_2 locs_3 ht hvm hrv8 hB hz1 hk1 hS => ?_)
  obtain ⟨fo8, rfl⟩ : ∃ z, z = u_5 := ⟨_, rfl⟩
  replace hB : va_P D vwCl [(out, .inl (cO, 1, .inr (.inl fo8)))] H_2 := by rw [← ht]; exact hB
  obtain ⟨hP, hD⟩ := q_join (wc := [(out, .inl (cO, 1, .inr (.inl fo)))]) (w1 := [(out, .inl (cO, 1, .inr (.inl fo8)))]) (ws' := [(xo, .inr (8, [.ref gg, .ref tr, .ref ti, .ref s2, .ref s3, .ref n2])), (gg, .inr (1, [.ref gr])), (gr, .inr (2, [.ref ce])), (ce, .inl (cG, 121, .inl fc)), (tr, .inr (5, [.ref sh])), (sh, .inr (4, [.ref ar, .int (nI n)])), (ar, .inl (cS, 40, .inr (.inr (.inr (.inr f))))), (ti, .inr (6, [.ref n1])), (n1, .inr (3, [.ref l1, .int z1])), (l1, .inl (cJ1, 401, .inr (.inl fN))), (s2, .inr (4, [.ref a2, .int (nI m)])), (a2, .inl (cS2, 40, .inr (.inr (.inr (.inr fk))))), (s3, .inr (4, [.ref a3, .int z3])), (a3, .inl (cS3, 40, .inr (.inr (.inr (.inr fr))))), (n2, .inr (3, [.ref l2, .int z2])), (l2, .inl (cJ2, 56, .inr (.inl fs))), (mo, .inr (9, [.int th, .int (nI n), .ref mw, .ref mct, .ref mp, .ref mnm, .ref m1, .ref m2, .int om, .int tm, .ref mt, .ref mk, .ref mr, .ref ml, .ref mq])), (mw, .inl (k1, 40, .inr (.inl (fun k9 => lN (wd k9))))), (mct, .inl (k2, 40, .inl (fun k9 => nI (ct k9)))), (mp, .inl (k3, 40, .inl (fun k9 => pin (pa k9)))), (mnm, .inl (k4, 40, .inl (fun k9 => nI (nm k9)))), (m1, .inl (k5, 11, .inl u1)), (m2, .inl (k6, 11, .inl u2)), (mt, .inl (k7, 121, .inl u3)), (mk, .inl (k8, 27, .inl (fun k9 => nI (kyf k9)))), (mr, .inl (k9c, 401, .inr (.inl u4))), (ml, .inl (k10, 64, .inr (.inl u5))), (mq, .inl (k11, 64, .inr (.inl u6))), (out, .inl (cO, 1, .inr (.inl fo8)))] ++ (EW ea wa (fun k => (pa k).map ea) nm dp ct ic lf pt n ++ WW wa wd n)) [28] hP hD rfl rfl hk1 hB rfl
  have hR := q_ro hR0 hna hS
  have hF8 := hrv8
  refine lv_istore (lv' := [(5, .int rv8), (0, .ref b), (1, .ref xo), (2, .ref mo), (3, .ref out), (4, .int (nI i))]) hx hb dL_law_1371 hl (by decide) rfl (fun ls hl => ?_)
  refine lv_aload_n hx hb dL_law_1373 rfl (lv_at hl 3 rfl) ?_
  refine lv_aload_n hx hb dL_law_1374 rfl (lv_at hl 1 rfl) ?_
  refine lv_iload hx hb dL_law_1375 (lv_at hl 5 rfl) ?_
  refine lv_iconst (v := nI 1) hx hb dL_law_1377 (by decide) ?_
  refine q_iadd (d := i + 1) hx hb dL_law_1378 (by omega) ?_
  refine va_sld hx hb hX hbl hbA hS (vp_in_nI (n := i + 1) (N := L) (by omega) (by omega)) dL_law_1379 ?_
  rw [nI_clamp (n := i + 1) (by omega)]
  refine lv_i2l hx hb dL_law_1380 rfl ?_
  refine lv_bipush (v := nI 32) hx hb dL_law_1381 (by decide) ?_
  refine lv_lshl hx hb dL_law_1383 rfl ?_
  refine lv_aload_n hx hb dL_law_1384 rfl (lv_at hl 1 rfl) ?_
  refine lv_iload hx hb dL_law_1385 (lv_at hl 5 rfl) ?_
  refine lv_iconst (v := nI 2) hx hb dL_law_1387 (by decide) ?_
  refine q_iadd (d := i + 2) hx hb dL_law_1388 (by omega) ?_
  refine va_sld hx hb hX hbl hbA hS (vp_in_nI (n := i + 2) (N := L) (by omega) (by omega)) dL_law_1389 ?_
  rw [nI_clamp (n := i + 2) (by omega)]
  refine lv_i2l hx hb dL_law_1390 rfl ?_
  refine lv_ldc2 (v := 4294967295) hx hb hown (hts (.constantLong RL 80 (4294967295)) (List.mem_of_getElem? (i := 7) rfl)) dL_law_1391 ?_
  refine q_cvl (show (4294967295 : Int64) = lN 4294967295 by decide) ?_
  refine lv_land hx hb dL_law_1394 ?_
  refine lv_lor hx hb dL_law_1395 ?_
  refine q_cvl hqa ?_
  have hF := va_free (wc := [(mo, .inr (9, [.int th, .int (nI n), .ref mw, .ref mct, .ref mp, .ref mnm, .ref m1, .ref m2, .int om, .int tm, .ref mt, .ref mk, .ref mr, .ref ml, .ref mq]))]) hD hS hA [16] rfl
  refine va_calli (va_runV (As := [.long (lN a)]) (rest := []) ⟨hx, hb, hml, hown, hts⟩ (c_X10_treeDepth (l := l) (D := D) (mo := mo) (mw := mw) (mct := mct) (mp := mp) (mnm := mnm) (m1 := m1) (m2 := m2) (mt := mt) (mk := mk) (mr := mr) (ml := ml) (mq := mq) (k1 := k1) (k3 := k3) (th := th) (n := n) (om := om) (tm := tm) (wd := wd) (pa := pa) (a := a) (dp := dp) (sz := H_2.size) (hnd := (q_nds (q_ndl (q_ndsw (q_ndg (l1 := [xo, gg, gr, ce, tr, sh, ar, ti, n1, l1, s2, a2, s3, a3, n2, l2, mo, mw, mct, mp, mnm, m1, m2, mt, mk, mr, ml, mq, out] ++ (rg ea n ++ rg wa n)) (l2 := []) hD hnR hna (by rw [List.map_append, List.map_append, EW_fst, WW_fst]; rfl) rfl))) [16, 17, 19] rfl rfl)) (ha := by omega) (hn40 := hn40) (hgw := hg) (hinj := hwi) (hpn := hpn) (hdp := hdp)) (cwV 1 hts gL_law_X10_treeDepth rfl rfl rfl (by decide +kernel) ⟨Nat.le_of_ble_eq_true rfl, Nat.le_of_ble_eq_true rfl⟩) ⟨qW_blind, (va_recv hK hP (ci := 9) (q0 := 16) rfl rfl), (qW_of (hP.sub (ws' := [(mw, .inl (k1, 40, .inr (.inl (fun k9 => lN (wd k9))))), (mp, .inl (k3, 40, .inl (fun k9 => pin (pa k9))))]) [17, 19] rfl) (hP.sub (ws' := [(mo, .inr (9, [.int th, .int (nI n), .ref mw, .ref mct, .ref mp, .ref mnm, .ref m1, .ref m2, .int om, .int tm, .ref mt, .ref mk, .ref mr, .ref ml, .ref mq]))]) [16] rfl) (hK.sub (tys' := [(k1, .long), (k3, .int)]) [6, 8] rfl) hNw)⟩ rfl rfl hl.1 rfl (lv_room (Nat.le_of_ble_eq_true rfl)) dL_law_1396 ⟨by show _ ≤ 601024; omega, by show _ ≤ 7293034; omega⟩) hS (fun q _ h => hF q h) hF (fun rb8 u_10 t_9 H_7 locs_8 ht hvm hrb8 hB hz1 hk1 hS => ?_)
  obtain ⟨t8, rfl⟩ : ∃ z, z = u_10 := ⟨_, rfl⟩
  replace hB : va_P D vwCl [(mo, .inr (9, [.int t8, .int (nI n), .ref mw, .ref mct, .ref mp, .ref mnm, .ref m1, .ref m2, .int om, .int tm, .ref mt, .ref mk, .ref mr, .ref ml, .ref mq]))] H_7 := by rw [← ht]; exact hB
  obtain ⟨hP, hD⟩ := q_join (wc := [(mo, .inr (9, [.int th, .int (nI n), .ref mw, .ref mct, .ref mp, .ref mnm, .ref m1, .ref m2, .int om, .int tm, .ref mt, .ref mk, .ref mr, .ref ml, .ref mq]))]) (w1 := [(mo, .inr (9, [.int t8, .int (nI n), .ref mw, .ref mct, .ref mp, .ref mnm, .ref m1, .ref m2, .int om, .int tm, .ref mt, .ref mk, .ref mr, .ref ml, .ref mq]))]) (ws' := [(xo, .inr (8, [.ref gg, .ref tr, .ref ti, .ref s2, .ref s3, .ref n2])), (gg, .inr (1, [.ref gr])), (gr, .inr (2, [.ref ce])), (ce, .inl (cG, 121, .inl fc)), (tr, .inr (5, [.ref sh])), (sh, .inr (4, [.ref ar, .int (nI n)])), (ar, .inl (cS, 40, .inr (.inr (.inr (.inr f))))), (ti, .inr (6, [.ref n1])), (n1, .inr (3, [.ref l1, .int z1])), (l1, .inl (cJ1, 401, .inr (.inl fN))), (s2, .inr (4, [.ref a2, .int (nI m)])), (a2, .inl (cS2, 40, .inr (.inr (.inr (.inr fk))))), (s3, .inr (4, [.ref a3, .int z3])), (a3, .inl (cS3, 40, .inr (.inr (.inr (.inr fr))))), (n2, .inr (3, [.ref l2, .int z2])), (l2, .inl (cJ2, 56, .inr (.inl fs))), (mo, .inr (9, [.int t8, .int (nI n), .ref mw, .ref mct, .ref mp, .ref mnm, .ref m1, .ref m2, .int om, .int tm, .ref mt, .ref mk, .ref mr, .ref ml, .ref mq])), (mw, .inl (k1, 40, .inr (.inl (fun k9 => lN (wd k9))))), (mct, .inl (k2, 40, .inl (fun k9 => nI (ct k9)))), (mp, .inl (k3, 40, .inl (fun k9 => pin (pa k9)))), (mnm, .inl (k4, 40, .inl (fun k9 => nI (nm k9)))), (m1, .inl (k5, 11, .inl u1)), (m2, .inl (k6, 11, .inl u2)), (mt, .inl (k7, 121, .inl u3)), (mk, .inl (k8, 27, .inl (fun k9 => nI (kyf k9)))), (mr, .inl (k9c, 401, .inr (.inl u4))), (ml, .inl (k10, 64, .inr (.inl u5))), (mq, .inl (k11, 64, .inr (.inl u6))), (out, .inl (cO, 1, .inr (.inl fo8)))] ++ (EW ea wa (fun k => (pa k).map ea) nm dp ct ic lf pt n ++ WW wa wd n)) [16] hP hD rfl rfl hk1 hB rfl
  have hR := q_ro hR0 hna hS
  obtain ⟨g80, g81⟩ := hrb8
  have hE : t8 = rv8 ∧ (rv8 = 0 → fo8 0 = (rb8).toInt64) := q_hv1 hF8 g80 (fun h9 => by rw [g81 h9])
  refine lv_istore (lv' := [(6, .int rb8), (5, .int rv8), (0, .ref b), (1, .ref xo), (2, .ref mo), (3, .ref out), (4, .int (nI i))]) hx hb dL_law_1399 hl (by decide) rfl (fun ls hl => ?_)
  refine lv_aload_n hx hb dL_law_1401 rfl (lv_at hl 4 rfl) ?_
  refine vp_callSi (W.runV (As := []) (rest := []) ⟨hx, hb, hml, hown, hts⟩ (c_X10_thrown (l := l) (D := D) (mo := mo) (mw := mw) (mct := mct) (mp := mp) (mnm := mnm) (m1 := m1) (m2 := m2) (mt := mt) (mk := mk) (mr := mr) (ml := ml) (mq := mq) (th := t8) (n := n) (om := om) (tm := tm) ) (cwV 0 hts gL_law_X10_thrown rfl rfl rfl (by decide +kernel) ⟨Nat.le_of_ble_eq_true rfl, Nat.le_of_ble_eq_true rfl⟩) ⟨qP_blind, (va_recv hK hP (ci := 9) (q0 := 16) rfl rfl), (qP_of (hP.sub (ws' := [(mo, .inr (9, [.int t8, .int (nI n), .ref mw, .ref mct, .ref mp, .ref mnm, .ref m1, .ref m2, .int om, .int tm, .ref mt, .ref mk, .ref mr, .ref ml, .ref mq]))]) [16] rfl) (hK.sub (tys' := []) [] rfl) hNw)⟩ rfl rfl hl.1 rfl (lv_room (Nat.le_of_ble_eq_true rfl)) dL_law_1402 ⟨by show _ ≤ 601024; omega, by show _ ≤ 7293034; omega⟩) (fun r_11 hr_11 => ?_)
  have hr_11 := hr_11.symm
  subst hr_11
  refine lv_iload hx hb dL_law_1405 (lv_at hl 1 rfl) ?_
  refine lv_icmp_eq (tgt := 1412) hx hb dL_law_1407 (by decide) (fun c_1407 => ?_) (fun c_1407 => False.elim (by exact c_1407 hE.1))
  refine lv_iload hx hb dL_law_1412 (lv_at hl 1 rfl) ?_
  refine lv_if_ne (tgt := 1429) hx hb dL_law_1414 (by decide) (fun c_1414 => ?_) (fun c_1414 => ?_)
  · skip
    refine lv_goto (tgt := 1919) hx hb dL_law_1429 (by decide) ?_
    exact K _ _ _ _ _ ⟨n, m, wd, ct, pa, nm, dp, ki, ea, wa, ic, lf, pt, f, fk, fc, z1, fN, z3, fr, z2, fs, t8, om, tm, u1, u2, u3, u4, u5, u6, fo8, hI, hfe, hfk, hP, hD, hS⟩ (lv_sub hl [2, 3, 4, 5, 6] rfl) (by omega) (by omega)
  · skip
    refine lv_aload_n hx hb dL_law_1417 rfl (lv_at hl 5 rfl) ?_
    refine lv_iconst (v := nI 0) hx hb dL_law_1418 (by decide) ?_
    refine va_lald (D := D) hx hb hK hP 28 17 rfl rfl (vp_in_nI (n := 0) (N := 1) (by omega) (by decide)) dL_law_1419 ?_
    rw [nI_clamp (n := 0) (by omega)]
    refine lv_iload hx hb dL_law_1420 (lv_at hl 0 rfl) ?_
    refine lv_i2l hx hb dL_law_1422 rfl ?_
    refine W.lcmp hx hb dL_law_1423 ?_
    refine q_lr_eq (tgt := 1429) hx hb dL_law_1424 (by decide) (fun c_1424 => ?_) (fun c_1424 => False.elim (by exact c_1424 (hE.2 c_1414)))
    refine lv_goto (tgt := 1919) hx hb dL_law_1429 (by decide) ?_
    exact K _ _ _ _ _ ⟨n, m, wd, ct, pa, nm, dp, ki, ea, wa, ic, lf, pt, f, fk, fc, z1, fN, z3, fr, z2, fs, t8, om, tm, u1, u2, u3, u4, u5, u6, fo8, hI, hfe, hfk, hP, hD, hS⟩ (lv_sub hl [2, 3, 4, 5, 6] rfl) (by omega) (by omega)

set_option maxHeartbeats 4000000 in
set_option maxRecDepth 100000 in
/-- treeParent -/
theorem lw_c1432 {p : Program} {l : Launch} {e : Env} {s : State} {mi9 : MethodId} {belowM : List Frame} {methM : Method} {cM : Code} {Q : State → Prop} {D : va_G} {A : Nat → Prop} {b L i : Nat} {xs : Nat → Int32} {xo gg gr ce tr sh ar ti n1 l1 s2 a2 s3 a3 n2 l2 mo mw mct mp mnm m1 m2 mt mk mr ml mq out : Nat} {cS cS2 cG cJ1 cS3 cJ2 k1 k2 k3 k4 k5 k6 k7 k8 k9c k10 k11 cO : ClassId} {H : Heap} {locs : List Loc} {ls : Array Slot} {cells slots : Nat} (hE : LWE p l s mi9 cM D A b L xs [(cG, .int), (cS, .object "FuzzyFens$Entry"), (cJ1, .long), (cS2, .object "FuzzyFens$Entry"), (cS3, .object "FuzzyFens$Entry"), (cJ2, .long), (k1, .long), (k2, .int), (k3, .int), (k4, .int), (k5, .int), (k6, .int), (k7, .int), (k8, .int), (k9c, .long), (k10, .long), (k11, .long), (cO, .long)]) (hi : i + 5 ≤ L) (hW : LWI D s A xo gg gr ce tr sh ar ti n1 l1 s2 a2 s3 a3 n2 l2 mo mw mct mp mnm m1 m2 mt mk mr ml mq out cS cS2 cG cJ1 cS3 cJ2 k1 k2 k3 k4 k5 k6 k7 k8 k9c k10 k11 cO H locs) (hl : lv_has ls 8 [(0, .ref b), (1, .ref xo), (2, .ref mo), (3, .ref out), (4, .int (nI i))]) (hc9 : cells + 8 ≤ 601024) (hs9 : slots + 64 ≤ 7293034) (K : LWK p l e s mi9 belowM methM cM Q D A b i xo gg gr ce tr sh ar ti n1 l1 s2 a2 s3 a3 n2 l2 mo mw mct mp mnm m1 m2 mt mk mr ml mq out cS cS2 cG cJ1 cS3 cJ2 k1 k2 k3 k4 k5 k6 k7 k8 k9c k10 k11 cO cells slots) : W p l e room_1 s mi9 #[Value.ref b] belowM methM cM H locs cells slots Q (F0 mi9 1432 ls []) := by
  obtain ⟨hx, hb, hml, hown, hts, hX, hbl, hbA, hA, hK, hNw, hZ, hXt, hst, hL⟩ := hE
  obtain ⟨n, m, wd, ct, pa, nm, dp, ki, ea, wa, ic, lf, pt, f, fk, fc, z1, fN, z3, fr, z2, fs, th, om, tm, u1, u2, u3, u4, u5, u6, fo, hI, hfe, hfk, hP, hD, hS⟩ := hW
  have hI0 := hI
  obtain ⟨hn40, hg, hwi, hct, hpn, hun, hnm, hnz, hdp, hKN, hSR⟩ := hI0
  have hmn := kn_le hKN hSR
  have hm : m ≤ 40 := Nat.le_trans hmn hn40
  have hki : ∀ j, j < m → ki j < n := fun j h => (hKN.1 j h).1
  have hcb : ∀ k, k < n → ct k < 2 ^ 31 := fun k h => by have := hct k h; omega
  have hnb : ∀ k, k < n → nm k < 2 ^ 31 := fun k h => by have := hnm k h; omega
  have hmz : ∀ i, i < n → ct i = 0 → m < n := fun i h h0 => kn_lt hKN hSR h h0
  have hkinj := srt_inj hSR
  have hkn := hKN.2
  have heai := q_poolinj hD
  have hR0 : va_P D vwCl [] s.heap := q_Pof (fun _ h => absurd h List.not_mem_nil)
  have hR := hR0
  have hna : ∀ q ∈ ([] : va_W), ¬ A q.1 := fun q h => absurd h List.not_mem_nil
  have hnR : (([] : va_W).map (·.1)).Nodup := List.nodup_nil
  refine lv_aload_n hx hb dL_law_1432 rfl (lv_at hl 1 rfl) ?_
  refine lv_aload_n hx hb dL_law_1433 rfl (lv_at hl 0 rfl) ?_
  refine lv_iload hx hb dL_law_1434 (lv_at hl 4 rfl) ?_
  refine lv_iconst (v := nI 1) hx hb dL_law_1436 (by decide) ?_
  refine q_iadd (d := i + 1) hx hb dL_law_1437 (by omega) ?_
  refine va_sld hx hb hX hbl hbA hS (vp_in_nI (n := i + 1) (N := L) (by omega) (by omega)) dL_law_1438 ?_
  rw [nI_clamp (n := i + 1) (by omega)]
  refine lv_i2l hx hb dL_law_1439 rfl ?_
  refine lv_bipush (v := nI 32) hx hb dL_law_1440 (by decide) ?_
  refine lv_lshl hx hb dL_law_1442 rfl ?_
  refine lv_aload_n hx hb dL_law_1443 rfl (lv_at hl 0 rfl) ?_
  refine lv_iload hx hb dL_law_1444 (lv_at hl 4 rfl) ?_
  refine lv_iconst (v := nI 2) hx hb dL_law_1446 (by decide) ?_
  refine q_iadd (d := i + 2) hx hb dL_law_1447 (by omega) ?_
  refine va_sld hx hb hX hbl hbA hS (vp_in_nI (n := i + 2) (N := L) (by omega) (by omega)) dL_law_1448 ?_
  rw [nI_clamp (n := i + 2) (by omega)]
  refine lv_i2l hx hb dL_law_1449 rfl ?_
  refine lv_ldc2 (v := 4294967295) hx hb hown (hts (.constantLong RL 80 (4294967295)) (List.mem_of_getElem? (i := 7) rfl)) dL_law_1450 ?_
  refine q_cvl (show (4294967295 : Int64) = lN 4294967295 by decide) ?_
  refine lv_land hx hb dL_law_1453 ?_
  refine lv_lor hx hb dL_law_1454 ?_
  obtain ⟨a, ha, hqa⟩ := q_lN ((((xs (i + 1)).toInt64) <<< ((nI 32).toInt64 &&& 63)) ||| (((xs (i + 2)).toInt64) &&& (lN 4294967295)))
  refine q_cvl hqa ?_
  refine lv_aload_n hx hb dL_law_1455 rfl (lv_at hl 3 rfl) ?_
  have hF := va_free (wc := [(out, .inl (cO, 1, .inr (.inl fo)))]) hD hS hA [28] rfl
  refine va_calli (vx_runSW (As := [.ref xo, .long (lN a), .ref out]) (rest := []) ⟨hx, hb, hml, hown, hts⟩ (c_L_treeParent (l := l) (D := D) (xo := xo) (gg := gg) (gr := gr) (ce := ce) (tr := tr) (sh := sh) (ar := ar) (ti := ti) (n1 := n1) (l1 := l1) (s2 := s2) (a2 := a2) (s3 := s3) (a3 := a3) (n2 := n2) (l2 := l2) (cS := cS) (f := f) (ea := ea) (wa := wa) (pf := (fun k => (pa k).map ea)) (cn := nm) (dp := dp) (oc := ct) (ic := ic) (lf := lf) (pt := pt) (wd := wd) (n := n) (pi := pa) (a := a) (out := out) (cO := cO) (fo := fo) (sz := H.size) (hnd := (q_ndt (q_ndsw (q_ndg (l1 := [xo, gg, gr, ce, tr, sh, ar, ti, n1, l1, s2, a2, s3, a3, n2, l2, mo, mw, mct, mp, mnm, m1, m2, mt, mk, mr, ml, mq, out] ++ (rg ea n ++ rg wa n)) (l2 := []) hD hnR hna (by rw [List.map_append, List.map_append, EW_fst, WW_fst]; rfl) rfl)) [28, 0, 4, 5, 6] rfl rfl)) (hst := hst) (ha := by omega) (hfe := hfe) (hn40 := hn40) (hg := hg) (hpi := (fun _ _ => rfl)) (hpn := hpn)) (vx_cwSW 3 hts gL_law_L_treeParent rfl rfl rfl (by decide +kernel) ⟨Nat.le_of_ble_eq_true rfl, Nat.le_of_ble_eq_true rfl⟩) ⟨qWx_blind, (qWx_of (va_P.app (hP.sub (ws' := [(xo, .inr (8, [.ref gg, .ref tr, .ref ti, .ref s2, .ref s3, .ref n2])), (tr, .inr (5, [.ref sh])), (sh, .inr (4, [.ref ar, .int (nI n)])), (ar, .inl (cS, 40, .inr (.inr (.inr (.inr f)))))]) [0, 4, 5, 6] rfl) (q_right hP)) (hP.sub (ws' := [(out, .inl (cO, 1, .inr (.inl fo)))]) [28] rfl) (hK.sub (tys' := [(cO, .long), (cS, .object "FuzzyFens$Entry")]) [17, 1] rfl) hNw (qZ_at hZ hS (fun q h => hF q h)) hXt)⟩ rfl rfl hl.1 rfl (lv_room (Nat.le_of_ble_eq_true rfl)) dL_law_1456 ⟨by show _ ≤ 601024; omega, by show _ ≤ 7293034; omega⟩) hS (fun q _ h => hF q h) hF (fun rv8 u_5 t_4 H_2 locs_3 ht hvm hrv8 hB hz1 hk1 hS => ?_)
  obtain ⟨fo8, rfl⟩ : ∃ z, z = u_5 := ⟨_, rfl⟩
  replace hB : va_P D vwCl [(out, .inl (cO, 1, .inr (.inl fo8)))] H_2 := by rw [← ht]; exact hB
  obtain ⟨hP, hD⟩ := q_join (wc := [(out, .inl (cO, 1, .inr (.inl fo)))]) (w1 := [(out, .inl (cO, 1, .inr (.inl fo8)))]) (ws' := [(xo, .inr (8, [.ref gg, .ref tr, .ref ti, .ref s2, .ref s3, .ref n2])), (gg, .inr (1, [.ref gr])), (gr, .inr (2, [.ref ce])), (ce, .inl (cG, 121, .inl fc)), (tr, .inr (5, [.ref sh])), (sh, .inr (4, [.ref ar, .int (nI n)])), (ar, .inl (cS, 40, .inr (.inr (.inr (.inr f))))), (ti, .inr (6, [.ref n1])), (n1, .inr (3, [.ref l1, .int z1])), (l1, .inl (cJ1, 401, .inr (.inl fN))), (s2, .inr (4, [.ref a2, .int (nI m)])), (a2, .inl (cS2, 40, .inr (.inr (.inr (.inr fk))))), (s3, .inr (4, [.ref a3, .int z3])), (a3, .inl (cS3, 40, .inr (.inr (.inr (.inr fr))))), (n2, .inr (3, [.ref l2, .int z2])), (l2, .inl (cJ2, 56, .inr (.inl fs))), (mo, .inr (9, [.int th, .int (nI n), .ref mw, .ref mct, .ref mp, .ref mnm, .ref m1, .ref m2, .int om, .int tm, .ref mt, .ref mk, .ref mr, .ref ml, .ref mq])), (mw, .inl (k1, 40, .inr (.inl (fun k9 => lN (wd k9))))), (mct, .inl (k2, 40, .inl (fun k9 => nI (ct k9)))), (mp, .inl (k3, 40, .inl (fun k9 => pin (pa k9)))), (mnm, .inl (k4, 40, .inl (fun k9 => nI (nm k9)))), (m1, .inl (k5, 11, .inl u1)), (m2, .inl (k6, 11, .inl u2)), (mt, .inl (k7, 121, .inl u3)), (mk, .inl (k8, 27, .inl (fun k9 => nI (kyf k9)))), (mr, .inl (k9c, 401, .inr (.inl u4))), (ml, .inl (k10, 64, .inr (.inl u5))), (mq, .inl (k11, 64, .inr (.inl u6))), (out, .inl (cO, 1, .inr (.inl fo8)))] ++ (EW ea wa (fun k => (pa k).map ea) nm dp ct ic lf pt n ++ WW wa wd n)) [28] hP hD rfl rfl hk1 hB rfl
  have hR := q_ro hR0 hna hS
  have hF8 := hrv8
  refine lv_istore (lv' := [(5, .int rv8), (0, .ref b), (1, .ref xo), (2, .ref mo), (3, .ref out), (4, .int (nI i))]) hx hb dL_law_1459 hl (by decide) rfl (fun ls hl => ?_)
  refine lv_aload_n hx hb dL_law_1461 rfl (lv_at hl 3 rfl) ?_
  refine lv_aload_n hx hb dL_law_1462 rfl (lv_at hl 1 rfl) ?_
  refine lv_iload hx hb dL_law_1463 (lv_at hl 5 rfl) ?_
  refine lv_iconst (v := nI 1) hx hb dL_law_1465 (by decide) ?_
  refine q_iadd (d := i + 1) hx hb dL_law_1466 (by omega) ?_
  refine va_sld hx hb hX hbl hbA hS (vp_in_nI (n := i + 1) (N := L) (by omega) (by omega)) dL_law_1467 ?_
  rw [nI_clamp (n := i + 1) (by omega)]
  refine lv_i2l hx hb dL_law_1468 rfl ?_
  refine lv_bipush (v := nI 32) hx hb dL_law_1469 (by decide) ?_
  refine lv_lshl hx hb dL_law_1471 rfl ?_
  refine lv_aload_n hx hb dL_law_1472 rfl (lv_at hl 1 rfl) ?_
  refine lv_iload hx hb dL_law_1473 (lv_at hl 5 rfl) ?_
  refine lv_iconst (v := nI 2) hx hb dL_law_1475 (by decide) ?_
  refine q_iadd (d := i + 2) hx hb dL_law_1476 (by omega) ?_
  refine va_sld hx hb hX hbl hbA hS (vp_in_nI (n := i + 2) (N := L) (by omega) (by omega)) dL_law_1477 ?_
  rw [nI_clamp (n := i + 2) (by omega)]
  refine lv_i2l hx hb dL_law_1478 rfl ?_
  refine lv_ldc2 (v := 4294967295) hx hb hown (hts (.constantLong RL 80 (4294967295)) (List.mem_of_getElem? (i := 7) rfl)) dL_law_1479 ?_
  refine q_cvl (show (4294967295 : Int64) = lN 4294967295 by decide) ?_
  refine lv_land hx hb dL_law_1482 ?_
  refine lv_lor hx hb dL_law_1483 ?_
  refine q_cvl hqa ?_
  have hF := va_free (wc := [(mo, .inr (9, [.int th, .int (nI n), .ref mw, .ref mct, .ref mp, .ref mnm, .ref m1, .ref m2, .int om, .int tm, .ref mt, .ref mk, .ref mr, .ref ml, .ref mq]))]) hD hS hA [16] rfl
  refine va_calll (va_runV (As := [.long (lN a)]) (rest := []) ⟨hx, hb, hml, hown, hts⟩ (c_X10_treeParent (l := l) (D := D) (mo := mo) (mw := mw) (mct := mct) (mp := mp) (mnm := mnm) (m1 := m1) (m2 := m2) (mt := mt) (mk := mk) (mr := mr) (ml := ml) (mq := mq) (k1 := k1) (k3 := k3) (th := th) (n := n) (om := om) (tm := tm) (wd := wd) (pa := pa) (a := a) (sz := H_2.size) (hnd := (q_nds (q_ndl (q_ndsw (q_ndg (l1 := [xo, gg, gr, ce, tr, sh, ar, ti, n1, l1, s2, a2, s3, a3, n2, l2, mo, mw, mct, mp, mnm, m1, m2, mt, mk, mr, ml, mq, out] ++ (rg ea n ++ rg wa n)) (l2 := []) hD hnR hna (by rw [List.map_append, List.map_append, EW_fst, WW_fst]; rfl) rfl))) [16, 17, 19] rfl rfl)) (ha := by omega) (hn40 := hn40) (hgw := hg) (hinj := hwi) (hpn := hpn)) (cwV 1 hts gL_law_X10_treeParent rfl rfl rfl (by decide +kernel) ⟨Nat.le_of_ble_eq_true rfl, Nat.le_of_ble_eq_true rfl⟩) ⟨qW_blind, (va_recv hK hP (ci := 9) (q0 := 16) rfl rfl), (qW_of (hP.sub (ws' := [(mw, .inl (k1, 40, .inr (.inl (fun k9 => lN (wd k9))))), (mp, .inl (k3, 40, .inl (fun k9 => pin (pa k9))))]) [17, 19] rfl) (hP.sub (ws' := [(mo, .inr (9, [.int th, .int (nI n), .ref mw, .ref mct, .ref mp, .ref mnm, .ref m1, .ref m2, .int om, .int tm, .ref mt, .ref mk, .ref mr, .ref ml, .ref mq]))]) [16] rfl) (hK.sub (tys' := [(k1, .long), (k3, .int)]) [6, 8] rfl) hNw)⟩ rfl rfl hl.1 rfl (lv_room (Nat.le_of_ble_eq_true rfl)) dL_law_1484 ⟨by show _ ≤ 601024; omega, by show _ ≤ 7293034; omega⟩) hS (fun q _ h => hF q h) hF (fun rb8 u_10 t_9 H_7 locs_8 ht hvm hrb8 hB hz1 hk1 hS => ?_)
  obtain ⟨t8, rfl⟩ : ∃ z, z = u_10 := ⟨_, rfl⟩
  replace hB : va_P D vwCl [(mo, .inr (9, [.int t8, .int (nI n), .ref mw, .ref mct, .ref mp, .ref mnm, .ref m1, .ref m2, .int om, .int tm, .ref mt, .ref mk, .ref mr, .ref ml, .ref mq]))] H_7 := by rw [← ht]; exact hB
  obtain ⟨hP, hD⟩ := q_join (wc := [(mo, .inr (9, [.int th, .int (nI n), .ref mw, .ref mct, .ref mp, .ref mnm, .ref m1, .ref m2, .int om, .int tm, .ref mt, .ref mk, .ref mr, .ref ml, .ref mq]))]) (w1 := [(mo, .inr (9, [.int t8, .int (nI n), .ref mw, .ref mct, .ref mp, .ref mnm, .ref m1, .ref m2, .int om, .int tm, .ref mt, .ref mk, .ref mr, .ref ml, .ref mq]))]) (ws' := [(xo, .inr (8, [.ref gg, .ref tr, .ref ti, .ref s2, .ref s3, .ref n2])), (gg, .inr (1, [.ref gr])), (gr, .inr (2, [.ref ce])), (ce, .inl (cG, 121, .inl fc)), (tr, .inr (5, [.ref sh])), (sh, .inr (4, [.ref ar, .int (nI n)])), (ar, .inl (cS, 40, .inr (.inr (.inr (.inr f))))), (ti, .inr (6, [.ref n1])), (n1, .inr (3, [.ref l1, .int z1])), (l1, .inl (cJ1, 401, .inr (.inl fN))), (s2, .inr (4, [.ref a2, .int (nI m)])), (a2, .inl (cS2, 40, .inr (.inr (.inr (.inr fk))))), (s3, .inr (4, [.ref a3, .int z3])), (a3, .inl (cS3, 40, .inr (.inr (.inr (.inr fr))))), (n2, .inr (3, [.ref l2, .int z2])), (l2, .inl (cJ2, 56, .inr (.inl fs))), (mo, .inr (9, [.int t8, .int (nI n), .ref mw, .ref mct, .ref mp, .ref mnm, .ref m1, .ref m2, .int om, .int tm, .ref mt, .ref mk, .ref mr, .ref ml, .ref mq])), (mw, .inl (k1, 40, .inr (.inl (fun k9 => lN (wd k9))))), (mct, .inl (k2, 40, .inl (fun k9 => nI (ct k9)))), (mp, .inl (k3, 40, .inl (fun k9 => pin (pa k9)))), (mnm, .inl (k4, 40, .inl (fun k9 => nI (nm k9)))), (m1, .inl (k5, 11, .inl u1)), (m2, .inl (k6, 11, .inl u2)), (mt, .inl (k7, 121, .inl u3)), (mk, .inl (k8, 27, .inl (fun k9 => nI (kyf k9)))), (mr, .inl (k9c, 401, .inr (.inl u4))), (ml, .inl (k10, 64, .inr (.inl u5))), (mq, .inl (k11, 64, .inr (.inl u6))), (out, .inl (cO, 1, .inr (.inl fo8)))] ++ (EW ea wa (fun k => (pa k).map ea) nm dp ct ic lf pt n ++ WW wa wd n)) [16] hP hD rfl rfl hk1 hB rfl
  have hR := q_ro hR0 hna hS
  obtain ⟨g80, g81⟩ := hrb8
  have hE : t8 = rv8 ∧ (rv8 = 0 → fo8 0 = rb8) := q_hv1 hF8 g80 (fun h9 => by rw [g81 h9])
  refine lv_lstore (lv' := [(6, .long rb8), (5, .int rv8), (0, .ref b), (1, .ref xo), (2, .ref mo), (3, .ref out), (4, .int (nI i))]) hx hb dL_law_1487 hl (by decide) rfl (fun ls hl => ?_)
  refine lv_aload_n hx hb dL_law_1489 rfl (lv_at hl 4 rfl) ?_
  refine vp_callSi (W.runV (As := []) (rest := []) ⟨hx, hb, hml, hown, hts⟩ (c_X10_thrown (l := l) (D := D) (mo := mo) (mw := mw) (mct := mct) (mp := mp) (mnm := mnm) (m1 := m1) (m2 := m2) (mt := mt) (mk := mk) (mr := mr) (ml := ml) (mq := mq) (th := t8) (n := n) (om := om) (tm := tm) ) (cwV 0 hts gL_law_X10_thrown rfl rfl rfl (by decide +kernel) ⟨Nat.le_of_ble_eq_true rfl, Nat.le_of_ble_eq_true rfl⟩) ⟨qP_blind, (va_recv hK hP (ci := 9) (q0 := 16) rfl rfl), (qP_of (hP.sub (ws' := [(mo, .inr (9, [.int t8, .int (nI n), .ref mw, .ref mct, .ref mp, .ref mnm, .ref m1, .ref m2, .int om, .int tm, .ref mt, .ref mk, .ref mr, .ref ml, .ref mq]))]) [16] rfl) (hK.sub (tys' := []) [] rfl) hNw)⟩ rfl rfl hl.1 rfl (lv_room (Nat.le_of_ble_eq_true rfl)) dL_law_1490 ⟨by show _ ≤ 601024; omega, by show _ ≤ 7293034; omega⟩) (fun r_11 hr_11 => ?_)
  have hr_11 := hr_11.symm
  subst hr_11
  refine lv_iload hx hb dL_law_1493 (lv_at hl 1 rfl) ?_
  refine lv_icmp_eq (tgt := 1500) hx hb dL_law_1495 (by decide) (fun c_1495 => ?_) (fun c_1495 => False.elim (by exact c_1495 hE.1))
  refine lv_iload hx hb dL_law_1500 (lv_at hl 1 rfl) ?_
  refine lv_if_ne (tgt := 1516) hx hb dL_law_1502 (by decide) (fun c_1502 => ?_) (fun c_1502 => ?_)
  · skip
    refine lv_goto (tgt := 1919) hx hb dL_law_1516 (by decide) ?_
    exact K _ _ _ _ _ ⟨n, m, wd, ct, pa, nm, dp, ki, ea, wa, ic, lf, pt, f, fk, fc, z1, fN, z3, fr, z2, fs, t8, om, tm, u1, u2, u3, u4, u5, u6, fo8, hI, hfe, hfk, hP, hD, hS⟩ (lv_sub hl [2, 3, 4, 5, 6] rfl) (by omega) (by omega)
  · skip
    refine lv_aload_n hx hb dL_law_1505 rfl (lv_at hl 5 rfl) ?_
    refine lv_iconst (v := nI 0) hx hb dL_law_1506 (by decide) ?_
    refine va_lald (D := D) hx hb hK hP 28 17 rfl rfl (vp_in_nI (n := 0) (N := 1) (by omega) (by decide)) dL_law_1507 ?_
    rw [nI_clamp (n := 0) (by omega)]
    refine lv_lload hx hb dL_law_1508 (lv_at hl 0 rfl) ?_
    refine W.lcmp hx hb dL_law_1510 ?_
    refine q_lr_eq (tgt := 1516) hx hb dL_law_1511 (by decide) (fun c_1511 => ?_) (fun c_1511 => False.elim (by exact c_1511 (hE.2 c_1502)))
    refine lv_goto (tgt := 1919) hx hb dL_law_1516 (by decide) ?_
    exact K _ _ _ _ _ ⟨n, m, wd, ct, pa, nm, dp, ki, ea, wa, ic, lf, pt, f, fk, fc, z1, fN, z3, fr, z2, fs, t8, om, tm, u1, u2, u3, u4, u5, u6, fo8, hI, hfe, hfk, hP, hD, hS⟩ (lv_sub hl [2, 3, 4, 5, 6] rfl) (by omega) (by omega)

set_option maxHeartbeats 4000000 in
set_option maxRecDepth 100000 in
/-- treeCompared -/
theorem lw_c1519 {p : Program} {l : Launch} {e : Env} {s : State} {mi9 : MethodId} {belowM : List Frame} {methM : Method} {cM : Code} {Q : State → Prop} {D : va_G} {A : Nat → Prop} {b L i : Nat} {xs : Nat → Int32} {xo gg gr ce tr sh ar ti n1 l1 s2 a2 s3 a3 n2 l2 mo mw mct mp mnm m1 m2 mt mk mr ml mq out : Nat} {cS cS2 cG cJ1 cS3 cJ2 k1 k2 k3 k4 k5 k6 k7 k8 k9c k10 k11 cO : ClassId} {H : Heap} {locs : List Loc} {ls : Array Slot} {cells slots : Nat} (hE : LWE p l s mi9 cM D A b L xs [(cG, .int), (cS, .object "FuzzyFens$Entry"), (cJ1, .long), (cS2, .object "FuzzyFens$Entry"), (cS3, .object "FuzzyFens$Entry"), (cJ2, .long), (k1, .long), (k2, .int), (k3, .int), (k4, .int), (k5, .int), (k6, .int), (k7, .int), (k8, .int), (k9c, .long), (k10, .long), (k11, .long), (cO, .long)]) (hi : i + 5 ≤ L) (hW : LWI D s A xo gg gr ce tr sh ar ti n1 l1 s2 a2 s3 a3 n2 l2 mo mw mct mp mnm m1 m2 mt mk mr ml mq out cS cS2 cG cJ1 cS3 cJ2 k1 k2 k3 k4 k5 k6 k7 k8 k9c k10 k11 cO H locs) (hl : lv_has ls 8 [(0, .ref b), (1, .ref xo), (2, .ref mo), (3, .ref out), (4, .int (nI i))]) (hc9 : cells + 8 ≤ 601024) (hs9 : slots + 64 ≤ 7293034) (K : LWK p l e s mi9 belowM methM cM Q D A b i xo gg gr ce tr sh ar ti n1 l1 s2 a2 s3 a3 n2 l2 mo mw mct mp mnm m1 m2 mt mk mr ml mq out cS cS2 cG cJ1 cS3 cJ2 k1 k2 k3 k4 k5 k6 k7 k8 k9c k10 k11 cO cells slots) : W p l e room_1 s mi9 #[Value.ref b] belowM methM cM H locs cells slots Q (F0 mi9 1519 ls []) := by
  obtain ⟨hx, hb, hml, hown, hts, hX, hbl, hbA, hA, hK, hNw, hZ, hXt, hst, hL⟩ := hE
  obtain ⟨n, m, wd, ct, pa, nm, dp, ki, ea, wa, ic, lf, pt, f, fk, fc, z1, fN, z3, fr, z2, fs, th, om, tm, u1, u2, u3, u4, u5, u6, fo, hI, hfe, hfk, hP, hD, hS⟩ := hW
  have hI0 := hI
  obtain ⟨hn40, hg, hwi, hct, hpn, hun, hnm, hnz, hdp, hKN, hSR⟩ := hI0
  have hmn := kn_le hKN hSR
  have hm : m ≤ 40 := Nat.le_trans hmn hn40
  have hki : ∀ j, j < m → ki j < n := fun j h => (hKN.1 j h).1
  have hcb : ∀ k, k < n → ct k < 2 ^ 31 := fun k h => by have := hct k h; omega
  have hnb : ∀ k, k < n → nm k < 2 ^ 31 := fun k h => by have := hnm k h; omega
  have hmz : ∀ i, i < n → ct i = 0 → m < n := fun i h h0 => kn_lt hKN hSR h h0
  have hkinj := srt_inj hSR
  have hkn := hKN.2
  have heai := q_poolinj hD
  have hR0 : va_P D vwCl [] s.heap := q_Pof (fun _ h => absurd h List.not_mem_nil)
  have hR := hR0
  have hna : ∀ q ∈ ([] : va_W), ¬ A q.1 := fun q h => absurd h List.not_mem_nil
  have hnR : (([] : va_W).map (·.1)).Nodup := List.nodup_nil
  refine lv_aload_n hx hb dL_law_1519 rfl (lv_at hl 1 rfl) ?_
  refine lv_aload_n hx hb dL_law_1520 rfl (lv_at hl 0 rfl) ?_
  refine lv_iload hx hb dL_law_1521 (lv_at hl 4 rfl) ?_
  refine lv_iconst (v := nI 1) hx hb dL_law_1523 (by decide) ?_
  refine q_iadd (d := i + 1) hx hb dL_law_1524 (by omega) ?_
  refine va_sld hx hb hX hbl hbA hS (vp_in_nI (n := i + 1) (N := L) (by omega) (by omega)) dL_law_1525 ?_
  rw [nI_clamp (n := i + 1) (by omega)]
  refine lv_i2l hx hb dL_law_1526 rfl ?_
  refine lv_bipush (v := nI 32) hx hb dL_law_1527 (by decide) ?_
  refine lv_lshl hx hb dL_law_1529 rfl ?_
  refine lv_aload_n hx hb dL_law_1530 rfl (lv_at hl 0 rfl) ?_
  refine lv_iload hx hb dL_law_1531 (lv_at hl 4 rfl) ?_
  refine lv_iconst (v := nI 2) hx hb dL_law_1533 (by decide) ?_
  refine q_iadd (d := i + 2) hx hb dL_law_1534 (by omega) ?_
  refine va_sld hx hb hX hbl hbA hS (vp_in_nI (n := i + 2) (N := L) (by omega) (by omega)) dL_law_1535 ?_
  rw [nI_clamp (n := i + 2) (by omega)]
  refine lv_i2l hx hb dL_law_1536 rfl ?_
  refine lv_ldc2 (v := 4294967295) hx hb hown (hts (.constantLong RL 80 (4294967295)) (List.mem_of_getElem? (i := 7) rfl)) dL_law_1537 ?_
  refine q_cvl (show (4294967295 : Int64) = lN 4294967295 by decide) ?_
  refine lv_land hx hb dL_law_1540 ?_
  refine lv_lor hx hb dL_law_1541 ?_
  obtain ⟨a, ha, hqa⟩ := q_lN ((((xs (i + 1)).toInt64) <<< ((nI 32).toInt64 &&& 63)) ||| (((xs (i + 2)).toInt64) &&& (lN 4294967295)))
  refine q_cvl hqa ?_
  refine lv_aload_n hx hb dL_law_1542 rfl (lv_at hl 0 rfl) ?_
  refine lv_iload hx hb dL_law_1543 (lv_at hl 4 rfl) ?_
  refine lv_iconst (v := nI 3) hx hb dL_law_1545 (by decide) ?_
  refine q_iadd (d := i + 3) hx hb dL_law_1546 (by omega) ?_
  refine va_sld hx hb hX hbl hbA hS (vp_in_nI (n := i + 3) (N := L) (by omega) (by omega)) dL_law_1547 ?_
  rw [nI_clamp (n := i + 3) (by omega)]
  refine lv_aload_n hx hb dL_law_1548 rfl (lv_at hl 3 rfl) ?_
  have hF := q_freeT (X := [(xo, .inr (8, [.ref gg, .ref tr, .ref ti, .ref s2, .ref s3, .ref n2])), (gg, .inr (1, [.ref gr])), (gr, .inr (2, [.ref ce])), (ce, .inl (cG, 121, .inl fc)), (tr, .inr (5, [.ref sh])), (sh, .inr (4, [.ref ar, .int (nI n)])), (ar, .inl (cS, 40, .inr (.inr (.inr (.inr f))))), (ti, .inr (6, [.ref n1])), (n1, .inr (3, [.ref l1, .int z1])), (l1, .inl (cJ1, 401, .inr (.inl fN))), (s2, .inr (4, [.ref a2, .int (nI m)])), (a2, .inl (cS2, 40, .inr (.inr (.inr (.inr fk))))), (s3, .inr (4, [.ref a3, .int z3])), (a3, .inl (cS3, 40, .inr (.inr (.inr (.inr fr))))), (n2, .inr (3, [.ref l2, .int z2])), (l2, .inl (cJ2, 56, .inr (.inl fs))), (mo, .inr (9, [.int th, .int (nI n), .ref mw, .ref mct, .ref mp, .ref mnm, .ref m1, .ref m2, .int om, .int tm, .ref mt, .ref mk, .ref mr, .ref ml, .ref mq])), (mw, .inl (k1, 40, .inr (.inl (fun k9 => lN (wd k9))))), (mct, .inl (k2, 40, .inl (fun k9 => nI (ct k9)))), (mp, .inl (k3, 40, .inl (fun k9 => pin (pa k9)))), (mnm, .inl (k4, 40, .inl (fun k9 => nI (nm k9)))), (m1, .inl (k5, 11, .inl u1)), (m2, .inl (k6, 11, .inl u2)), (mt, .inl (k7, 121, .inl u3)), (mk, .inl (k8, 27, .inl (fun k9 => nI (kyf k9)))), (mr, .inl (k9c, 401, .inr (.inl u4))), (ml, .inl (k10, 64, .inr (.inl u5))), (mq, .inl (k11, 64, .inr (.inl u6))), (out, .inl (cO, 1, .inr (.inl fo)))]) (T := (EW ea wa (fun k => (pa k).map ea) nm dp ct ic lf pt n ++ WW wa wd n)) (cx := [(out, .inl (cO, 1, .inr (.inl fo))), (ce, .inl (cG, 121, .inl fc))]) hD hS hA [28, 3] rfl
  refine va_calli (vx_runSW (As := [.ref xo, .long (lN a), .int (xs (i + 3)), .ref out]) (rest := []) ⟨hx, hb, hml, hown, hts⟩ (c_L_treeCompared (l := l) (D := D) (xo := xo) (gg := gg) (gr := gr) (ce := ce) (tr := tr) (sh := sh) (ar := ar) (ti := ti) (n1 := n1) (l1 := l1) (s2 := s2) (a2 := a2) (s3 := s3) (a3 := a3) (n2 := n2) (l2 := l2) (cS := cS) (f := f) (ea := ea) (wa := wa) (pf := (fun k => (pa k).map ea)) (cn := nm) (dp := dp) (oc := ct) (ic := ic) (lf := lf) (pt := pt) (wd := wd) (n := n) (pi := pa) (cG := cG) (fc := fc) (a := a) (x9 := xs (i + 3)) (CC := (ccf pa nm wd a (kz (xs (i + 3))))) (out := out) (cO := cO) (fo := fo) (sz := H.size) (hnd := (q_ndws (q_ndt (a' := [out, ce]) (b' := [xo, tr, sh, ar, gg, gr]) (q_ndsw (q_ndg (l1 := [xo, gg, gr, ce, tr, sh, ar, ti, n1, l1, s2, a2, s3, a3, n2, l2, mo, mw, mct, mp, mnm, m1, m2, mt, mk, mr, ml, mq, out] ++ (rg ea n ++ rg wa n)) (l2 := []) hD hnR hna (by rw [List.map_append, List.map_append, EW_fst, WW_fst]; rfl) rfl)) [28, 3, 0, 4, 5, 6, 1, 2] rfl rfl))) (hst := hst) (ha := by omega) (hfe := hfe) (hn40 := hn40) (hg := hg) (hpi := (fun _ _ => rfl)) (hpn := hpn) (hcb := hnm) (hCq := (ccf_eq hpn))) (vx_cwSW 4 hts gL_law_L_treeCompared rfl rfl rfl (by decide +kernel) ⟨Nat.le_of_ble_eq_true rfl, Nat.le_of_ble_eq_true rfl⟩) ⟨qWx_blind, (qWx_of (hP.sub (ws' := [(xo, .inr (8, [.ref gg, .ref tr, .ref ti, .ref s2, .ref s3, .ref n2])), (tr, .inr (5, [.ref sh])), (sh, .inr (4, [.ref ar, .int (nI n)])), (ar, .inl (cS, 40, .inr (.inr (.inr (.inr f))))), (gg, .inr (1, [.ref gr])), (gr, .inr (2, [.ref ce]))]) [0, 4, 5, 6, 1, 2] rfl) (va_P.app (hP.sub (ws' := [(out, .inl (cO, 1, .inr (.inl fo))), (ce, .inl (cG, 121, .inl fc))]) [28, 3] rfl) (q_right hP)) (hK.sub (tys' := [(cO, .long), (cG, .int), (cS, .object "FuzzyFens$Entry")]) [17, 0, 1] rfl) hNw (qZ_at hZ hS (fun q h => hF q h)) hXt)⟩ rfl rfl hl.1 rfl (lv_room (Nat.le_of_ble_eq_true rfl)) dL_law_1549 ⟨by show _ ≤ 601024; omega, by show _ ≤ 7293034; omega⟩) hS (fun q _ h => hF q h) hF (fun rv8 u_5 t_4 H_2 locs_3 ht hvm hrv8 hB hz1 hk1 hS => ?_)
  obtain ⟨fc2_6, ic2_7, lf2_8, fo8⟩ := u_5
  dsimp only at hrv8 hB
  replace hB : va_P D vwCl ([(out, .inl (cO, 1, .inr (.inl fo8))), (ce, .inl (cG, 121, .inl fc2_6))] ++ (EW ea wa (fun k => (pa k).map ea) nm dp ct ic2_7 lf2_8 pt n ++ WW wa wd n)) H_2 := by rw [← ht]; exact hB
  obtain ⟨hP, hD⟩ := q_joinT (X := [(xo, .inr (8, [.ref gg, .ref tr, .ref ti, .ref s2, .ref s3, .ref n2])), (gg, .inr (1, [.ref gr])), (gr, .inr (2, [.ref ce])), (ce, .inl (cG, 121, .inl fc)), (tr, .inr (5, [.ref sh])), (sh, .inr (4, [.ref ar, .int (nI n)])), (ar, .inl (cS, 40, .inr (.inr (.inr (.inr f))))), (ti, .inr (6, [.ref n1])), (n1, .inr (3, [.ref l1, .int z1])), (l1, .inl (cJ1, 401, .inr (.inl fN))), (s2, .inr (4, [.ref a2, .int (nI m)])), (a2, .inl (cS2, 40, .inr (.inr (.inr (.inr fk))))), (s3, .inr (4, [.ref a3, .int z3])), (a3, .inl (cS3, 40, .inr (.inr (.inr (.inr fr))))), (n2, .inr (3, [.ref l2, .int z2])), (l2, .inl (cJ2, 56, .inr (.inl fs))), (mo, .inr (9, [.int th, .int (nI n), .ref mw, .ref mct, .ref mp, .ref mnm, .ref m1, .ref m2, .int om, .int tm, .ref mt, .ref mk, .ref mr, .ref ml, .ref mq])), (mw, .inl (k1, 40, .inr (.inl (fun k9 => lN (wd k9))))), (mct, .inl (k2, 40, .inl (fun k9 => nI (ct k9)))), (mp, .inl (k3, 40, .inl (fun k9 => pin (pa k9)))), (mnm, .inl (k4, 40, .inl (fun k9 => nI (nm k9)))), (m1, .inl (k5, 11, .inl u1)), (m2, .inl (k6, 11, .inl u2)), (mt, .inl (k7, 121, .inl u3)), (mk, .inl (k8, 27, .inl (fun k9 => nI (kyf k9)))), (mr, .inl (k9c, 401, .inr (.inl u4))), (ml, .inl (k10, 64, .inr (.inl u5))), (mq, .inl (k11, 64, .inr (.inl u6))), (out, .inl (cO, 1, .inr (.inl fo)))]) (T := (EW ea wa (fun k => (pa k).map ea) nm dp ct ic lf pt n ++ WW wa wd n)) (cx := [(out, .inl (cO, 1, .inr (.inl fo))), (ce, .inl (cG, 121, .inl fc))]) (cx' := [(out, .inl (cO, 1, .inr (.inl fo8))), (ce, .inl (cG, 121, .inl fc2_6))]) (T' := (EW ea wa (fun k => (pa k).map ea) nm dp ct ic2_7 lf2_8 pt n ++ WW wa wd n)) (X' := [(xo, .inr (8, [.ref gg, .ref tr, .ref ti, .ref s2, .ref s3, .ref n2])), (gg, .inr (1, [.ref gr])), (gr, .inr (2, [.ref ce])), (ce, .inl (cG, 121, .inl fc2_6)), (tr, .inr (5, [.ref sh])), (sh, .inr (4, [.ref ar, .int (nI n)])), (ar, .inl (cS, 40, .inr (.inr (.inr (.inr f))))), (ti, .inr (6, [.ref n1])), (n1, .inr (3, [.ref l1, .int z1])), (l1, .inl (cJ1, 401, .inr (.inl fN))), (s2, .inr (4, [.ref a2, .int (nI m)])), (a2, .inl (cS2, 40, .inr (.inr (.inr (.inr fk))))), (s3, .inr (4, [.ref a3, .int z3])), (a3, .inl (cS3, 40, .inr (.inr (.inr (.inr fr))))), (n2, .inr (3, [.ref l2, .int z2])), (l2, .inl (cJ2, 56, .inr (.inl fs))), (mo, .inr (9, [.int th, .int (nI n), .ref mw, .ref mct, .ref mp, .ref mnm, .ref m1, .ref m2, .int om, .int tm, .ref mt, .ref mk, .ref mr, .ref ml, .ref mq])), (mw, .inl (k1, 40, .inr (.inl (fun k9 => lN (wd k9))))), (mct, .inl (k2, 40, .inl (fun k9 => nI (ct k9)))), (mp, .inl (k3, 40, .inl (fun k9 => pin (pa k9)))), (mnm, .inl (k4, 40, .inl (fun k9 => nI (nm k9)))), (m1, .inl (k5, 11, .inl u1)), (m2, .inl (k6, 11, .inl u2)), (mt, .inl (k7, 121, .inl u3)), (mk, .inl (k8, 27, .inl (fun k9 => nI (kyf k9)))), (mr, .inl (k9c, 401, .inr (.inl u4))), (ml, .inl (k10, 64, .inr (.inl u5))), (mq, .inl (k11, 64, .inr (.inl u6))), (out, .inl (cO, 1, .inr (.inl fo8)))]) [28, 3] hP hD rfl rfl (by simp only [List.map_append, EW_fst, WW_fst]) hk1 hB rfl
  have hR := q_ro hR0 hna hS
  have hF8 := hrv8
  refine lv_istore (lv' := [(5, .int rv8), (0, .ref b), (1, .ref xo), (2, .ref mo), (3, .ref out), (4, .int (nI i))]) hx hb dL_law_1552 hl (by decide) rfl (fun ls hl => ?_)
  refine lv_aload_n hx hb dL_law_1554 rfl (lv_at hl 3 rfl) ?_
  refine lv_aload_n hx hb dL_law_1555 rfl (lv_at hl 1 rfl) ?_
  refine lv_iload hx hb dL_law_1556 (lv_at hl 5 rfl) ?_
  refine lv_iconst (v := nI 1) hx hb dL_law_1558 (by decide) ?_
  refine q_iadd (d := i + 1) hx hb dL_law_1559 (by omega) ?_
  refine va_sld hx hb hX hbl hbA hS (vp_in_nI (n := i + 1) (N := L) (by omega) (by omega)) dL_law_1560 ?_
  rw [nI_clamp (n := i + 1) (by omega)]
  refine lv_i2l hx hb dL_law_1561 rfl ?_
  refine lv_bipush (v := nI 32) hx hb dL_law_1562 (by decide) ?_
  refine lv_lshl hx hb dL_law_1564 rfl ?_
  refine lv_aload_n hx hb dL_law_1565 rfl (lv_at hl 1 rfl) ?_
  refine lv_iload hx hb dL_law_1566 (lv_at hl 5 rfl) ?_
  refine lv_iconst (v := nI 2) hx hb dL_law_1568 (by decide) ?_
  refine q_iadd (d := i + 2) hx hb dL_law_1569 (by omega) ?_
  refine va_sld hx hb hX hbl hbA hS (vp_in_nI (n := i + 2) (N := L) (by omega) (by omega)) dL_law_1570 ?_
  rw [nI_clamp (n := i + 2) (by omega)]
  refine lv_i2l hx hb dL_law_1571 rfl ?_
  refine lv_ldc2 (v := 4294967295) hx hb hown (hts (.constantLong RL 80 (4294967295)) (List.mem_of_getElem? (i := 7) rfl)) dL_law_1572 ?_
  refine q_cvl (show (4294967295 : Int64) = lN 4294967295 by decide) ?_
  refine lv_land hx hb dL_law_1575 ?_
  refine lv_lor hx hb dL_law_1576 ?_
  refine q_cvl hqa ?_
  refine lv_aload_n hx hb dL_law_1577 rfl (lv_at hl 1 rfl) ?_
  refine lv_iload hx hb dL_law_1578 (lv_at hl 5 rfl) ?_
  refine lv_iconst (v := nI 3) hx hb dL_law_1580 (by decide) ?_
  refine q_iadd (d := i + 3) hx hb dL_law_1581 (by omega) ?_
  refine va_sld hx hb hX hbl hbA hS (vp_in_nI (n := i + 3) (N := L) (by omega) (by omega)) dL_law_1582 ?_
  rw [nI_clamp (n := i + 3) (by omega)]
  have hF := va_free (wc := [(mo, .inr (9, [.int th, .int (nI n), .ref mw, .ref mct, .ref mp, .ref mnm, .ref m1, .ref m2, .int om, .int tm, .ref mt, .ref mk, .ref mr, .ref ml, .ref mq])), (m1, .inl (k5, 11, .inl u1)), (m2, .inl (k6, 11, .inl u2)), (mt, .inl (k7, 121, .inl u3))]) hD hS hA [16, 21, 22, 23] rfl
  refine va_calli (va_runV (As := [.long (lN a), .int (xs (i + 3))]) (rest := []) ⟨hx, hb, hml, hown, hts⟩ (c_X10_treeCompared (l := l) (D := D) (mo := mo) (mw := mw) (mct := mct) (mp := mp) (mnm := mnm) (m1 := m1) (m2 := m2) (mt := mt) (mk := mk) (mr := mr) (ml := ml) (mq := mq) (k1 := k1) (k3 := k3) (k4 := k4) (k5 := k5) (k6 := k6) (k7 := k7) (th := th) (n := n) (om := om) (tm := tm) (f1 := u1) (f2 := u2) (ft := u3) (wd := wd) (pa := pa) (nm := nm) (a := a) (CC := (ccf pa nm wd a (kz (xs (i + 3))))) (x9 := xs (i + 3)) (sz := H_2.size) (hnd := (q_nds (q_ndl (q_ndsw (q_ndg (l1 := [xo, gg, gr, ce, tr, sh, ar, ti, n1, l1, s2, a2, s3, a3, n2, l2, mo, mw, mct, mp, mnm, m1, m2, mt, mk, mr, ml, mq, out] ++ (rg ea n ++ rg wa n)) (l2 := []) hD hnR hna (by rw [List.map_append, List.map_append, EW_fst, WW_fst]; rfl) rfl))) [16, 21, 22, 23, 17, 19, 20] rfl rfl)) (ha := by omega) (hn40 := hn40) (hgw := hg) (hpn := hpn) (hnb := hnm) (hCq := (ccf_eq hpn))) (cwV 2 hts gL_law_X10_treeCompared rfl rfl rfl (by decide +kernel) ⟨Nat.le_of_ble_eq_true rfl, Nat.le_of_ble_eq_true rfl⟩) ⟨qW_blind, (va_recv hK hP (ci := 9) (q0 := 16) rfl rfl), (qW_of (hP.sub (ws' := [(mw, .inl (k1, 40, .inr (.inl (fun k9 => lN (wd k9))))), (mp, .inl (k3, 40, .inl (fun k9 => pin (pa k9)))), (mnm, .inl (k4, 40, .inl (fun k9 => nI (nm k9))))]) [17, 19, 20] rfl) (hP.sub (ws' := [(mo, .inr (9, [.int th, .int (nI n), .ref mw, .ref mct, .ref mp, .ref mnm, .ref m1, .ref m2, .int om, .int tm, .ref mt, .ref mk, .ref mr, .ref ml, .ref mq])), (m1, .inl (k5, 11, .inl u1)), (m2, .inl (k6, 11, .inl u2)), (mt, .inl (k7, 121, .inl u3))]) [16, 21, 22, 23] rfl) (hK.sub (tys' := [(k5, .int), (k6, .int), (k7, .int), (k1, .long), (k3, .int), (k4, .int)]) [10, 11, 12, 6, 8, 9] rfl) hNw)⟩ rfl rfl hl.1 rfl (lv_room (Nat.le_of_ble_eq_true rfl)) dL_law_1583 ⟨by show _ ≤ 601024; omega, by show _ ≤ 7293034; omega⟩) hS (fun q _ h => hF q h) hF (fun rb8 u_13 t_12 H_10 locs_11 ht hvm hrb8 hB hz1 hk1 hS => ?_)
  obtain ⟨t8, o2_14, q2_15, g1_16, g2_17, g3_18⟩ := u_13
  dsimp only at hrb8 hB
  replace hB : va_P D vwCl [(mo, .inr (9, [.int t8, .int (nI n), .ref mw, .ref mct, .ref mp, .ref mnm, .ref m1, .ref m2, .int o2_14, .int q2_15, .ref mt, .ref mk, .ref mr, .ref ml, .ref mq])), (m1, .inl (k5, 11, .inl g1_16)), (m2, .inl (k6, 11, .inl g2_17)), (mt, .inl (k7, 121, .inl g3_18))] H_10 := by rw [← ht]; exact hB
  obtain ⟨hP, hD⟩ := q_join (wc := [(mo, .inr (9, [.int th, .int (nI n), .ref mw, .ref mct, .ref mp, .ref mnm, .ref m1, .ref m2, .int om, .int tm, .ref mt, .ref mk, .ref mr, .ref ml, .ref mq])), (m1, .inl (k5, 11, .inl u1)), (m2, .inl (k6, 11, .inl u2)), (mt, .inl (k7, 121, .inl u3))]) (w1 := [(mo, .inr (9, [.int t8, .int (nI n), .ref mw, .ref mct, .ref mp, .ref mnm, .ref m1, .ref m2, .int o2_14, .int q2_15, .ref mt, .ref mk, .ref mr, .ref ml, .ref mq])), (m1, .inl (k5, 11, .inl g1_16)), (m2, .inl (k6, 11, .inl g2_17)), (mt, .inl (k7, 121, .inl g3_18))]) (ws' := [(xo, .inr (8, [.ref gg, .ref tr, .ref ti, .ref s2, .ref s3, .ref n2])), (gg, .inr (1, [.ref gr])), (gr, .inr (2, [.ref ce])), (ce, .inl (cG, 121, .inl fc2_6)), (tr, .inr (5, [.ref sh])), (sh, .inr (4, [.ref ar, .int (nI n)])), (ar, .inl (cS, 40, .inr (.inr (.inr (.inr f))))), (ti, .inr (6, [.ref n1])), (n1, .inr (3, [.ref l1, .int z1])), (l1, .inl (cJ1, 401, .inr (.inl fN))), (s2, .inr (4, [.ref a2, .int (nI m)])), (a2, .inl (cS2, 40, .inr (.inr (.inr (.inr fk))))), (s3, .inr (4, [.ref a3, .int z3])), (a3, .inl (cS3, 40, .inr (.inr (.inr (.inr fr))))), (n2, .inr (3, [.ref l2, .int z2])), (l2, .inl (cJ2, 56, .inr (.inl fs))), (mo, .inr (9, [.int t8, .int (nI n), .ref mw, .ref mct, .ref mp, .ref mnm, .ref m1, .ref m2, .int o2_14, .int q2_15, .ref mt, .ref mk, .ref mr, .ref ml, .ref mq])), (mw, .inl (k1, 40, .inr (.inl (fun k9 => lN (wd k9))))), (mct, .inl (k2, 40, .inl (fun k9 => nI (ct k9)))), (mp, .inl (k3, 40, .inl (fun k9 => pin (pa k9)))), (mnm, .inl (k4, 40, .inl (fun k9 => nI (nm k9)))), (m1, .inl (k5, 11, .inl g1_16)), (m2, .inl (k6, 11, .inl g2_17)), (mt, .inl (k7, 121, .inl g3_18)), (mk, .inl (k8, 27, .inl (fun k9 => nI (kyf k9)))), (mr, .inl (k9c, 401, .inr (.inl u4))), (ml, .inl (k10, 64, .inr (.inl u5))), (mq, .inl (k11, 64, .inr (.inl u6))), (out, .inl (cO, 1, .inr (.inl fo8)))] ++ (EW ea wa (fun k => (pa k).map ea) nm dp ct ic2_7 lf2_8 pt n ++ WW wa wd n)) [16, 21, 22, 23] hP hD rfl rfl hk1 hB rfl
  have hR := q_ro hR0 hna hS
  obtain ⟨g80, g81⟩ := hrb8
  have hE : t8 = rv8 ∧ (rv8 = 0 → fo8 0 = (rb8).toInt64) := q_hv1 hF8 g80 (fun h9 => by rw [g81 h9])
  refine lv_istore (lv' := [(6, .int rb8), (5, .int rv8), (0, .ref b), (1, .ref xo), (2, .ref mo), (3, .ref out), (4, .int (nI i))]) hx hb dL_law_1586 hl (by decide) rfl (fun ls hl => ?_)
  refine lv_aload_n hx hb dL_law_1588 rfl (lv_at hl 4 rfl) ?_
  refine vp_callSi (W.runV (As := []) (rest := []) ⟨hx, hb, hml, hown, hts⟩ (c_X10_thrown (l := l) (D := D) (mo := mo) (mw := mw) (mct := mct) (mp := mp) (mnm := mnm) (m1 := m1) (m2 := m2) (mt := mt) (mk := mk) (mr := mr) (ml := ml) (mq := mq) (th := t8) (n := n) (om := o2_14) (tm := q2_15) ) (cwV 0 hts gL_law_X10_thrown rfl rfl rfl (by decide +kernel) ⟨Nat.le_of_ble_eq_true rfl, Nat.le_of_ble_eq_true rfl⟩) ⟨qP_blind, (va_recv hK hP (ci := 9) (q0 := 16) rfl rfl), (qP_of (hP.sub (ws' := [(mo, .inr (9, [.int t8, .int (nI n), .ref mw, .ref mct, .ref mp, .ref mnm, .ref m1, .ref m2, .int o2_14, .int q2_15, .ref mt, .ref mk, .ref mr, .ref ml, .ref mq]))]) [16] rfl) (hK.sub (tys' := []) [] rfl) hNw)⟩ rfl rfl hl.1 rfl (lv_room (Nat.le_of_ble_eq_true rfl)) dL_law_1589 ⟨by show _ ≤ 601024; omega, by show _ ≤ 7293034; omega⟩) (fun r_19 hr_19 => ?_)
  have hr_19 := hr_19.symm
  subst hr_19
  refine lv_iload hx hb dL_law_1592 (lv_at hl 1 rfl) ?_
  refine lv_icmp_eq (tgt := 1599) hx hb dL_law_1594 (by decide) (fun c_1594 => ?_) (fun c_1594 => False.elim (by exact c_1594 hE.1))
  refine lv_iload hx hb dL_law_1599 (lv_at hl 1 rfl) ?_
  refine lv_if_ne (tgt := 1616) hx hb dL_law_1601 (by decide) (fun c_1601 => ?_) (fun c_1601 => ?_)
  · skip
    refine lv_goto (tgt := 1919) hx hb dL_law_1616 (by decide) ?_
    exact K _ _ _ _ _ ⟨n, m, wd, ct, pa, nm, dp, ki, ea, wa, ic2_7, lf2_8, pt, f, fk, fc2_6, z1, fN, z3, fr, z2, fs, t8, o2_14, q2_15, g1_16, g2_17, g3_18, u4, u5, u6, fo8, hI, hfe, hfk, hP, hD, hS⟩ (lv_sub hl [2, 3, 4, 5, 6] rfl) (by omega) (by omega)
  · skip
    refine lv_aload_n hx hb dL_law_1604 rfl (lv_at hl 5 rfl) ?_
    refine lv_iconst (v := nI 0) hx hb dL_law_1605 (by decide) ?_
    refine va_lald (D := D) hx hb hK hP 28 17 rfl rfl (vp_in_nI (n := 0) (N := 1) (by omega) (by decide)) dL_law_1606 ?_
    rw [nI_clamp (n := 0) (by omega)]
    refine lv_iload hx hb dL_law_1607 (lv_at hl 0 rfl) ?_
    refine lv_i2l hx hb dL_law_1609 rfl ?_
    refine W.lcmp hx hb dL_law_1610 ?_
    refine q_lr_eq (tgt := 1616) hx hb dL_law_1611 (by decide) (fun c_1611 => ?_) (fun c_1611 => False.elim (by exact c_1611 (hE.2 c_1601)))
    refine lv_goto (tgt := 1919) hx hb dL_law_1616 (by decide) ?_
    exact K _ _ _ _ _ ⟨n, m, wd, ct, pa, nm, dp, ki, ea, wa, ic2_7, lf2_8, pt, f, fk, fc2_6, z1, fN, z3, fr, z2, fs, t8, o2_14, q2_15, g1_16, g2_17, g3_18, u4, u5, u6, fo8, hI, hfe, hfk, hP, hD, hS⟩ (lv_sub hl [2, 3, 4, 5, 6] rfl) (by omega) (by omega)

set_option maxHeartbeats 4000000 in
set_option maxRecDepth 100000 in
/-- neighbourhood -/
theorem lw_c1619 {p : Program} {l : Launch} {e : Env} {s : State} {mi9 : MethodId} {belowM : List Frame} {methM : Method} {cM : Code} {Q : State → Prop} {D : va_G} {A : Nat → Prop} {b L i : Nat} {xs : Nat → Int32} {xo gg gr ce tr sh ar ti n1 l1 s2 a2 s3 a3 n2 l2 mo mw mct mp mnm m1 m2 mt mk mr ml mq out : Nat} {cS cS2 cG cJ1 cS3 cJ2 k1 k2 k3 k4 k5 k6 k7 k8 k9c k10 k11 cO : ClassId} {H : Heap} {locs : List Loc} {ls : Array Slot} {cells slots : Nat} (hE : LWE p l s mi9 cM D A b L xs [(cG, .int), (cS, .object "FuzzyFens$Entry"), (cJ1, .long), (cS2, .object "FuzzyFens$Entry"), (cS3, .object "FuzzyFens$Entry"), (cJ2, .long), (k1, .long), (k2, .int), (k3, .int), (k4, .int), (k5, .int), (k6, .int), (k7, .int), (k8, .int), (k9c, .long), (k10, .long), (k11, .long), (cO, .long)]) (hi : i + 5 ≤ L) (hW : LWI D s A xo gg gr ce tr sh ar ti n1 l1 s2 a2 s3 a3 n2 l2 mo mw mct mp mnm m1 m2 mt mk mr ml mq out cS cS2 cG cJ1 cS3 cJ2 k1 k2 k3 k4 k5 k6 k7 k8 k9c k10 k11 cO H locs) (hl : lv_has ls 8 [(0, .ref b), (1, .ref xo), (2, .ref mo), (3, .ref out), (4, .int (nI i))]) (hc9 : cells + 8 ≤ 601024) (hs9 : slots + 64 ≤ 7293034) (K : LWK p l e s mi9 belowM methM cM Q D A b i xo gg gr ce tr sh ar ti n1 l1 s2 a2 s3 a3 n2 l2 mo mw mct mp mnm m1 m2 mt mk mr ml mq out cS cS2 cG cJ1 cS3 cJ2 k1 k2 k3 k4 k5 k6 k7 k8 k9c k10 k11 cO cells slots) : W p l e room_1 s mi9 #[Value.ref b] belowM methM cM H locs cells slots Q (F0 mi9 1619 ls []) := by
  obtain ⟨hx, hb, hml, hown, hts, hX, hbl, hbA, hA, hK, hNw, hZ, hXt, hst, hL⟩ := hE
  obtain ⟨n, m, wd, ct, pa, nm, dp, ki, ea, wa, ic, lf, pt, f, fk, fc, z1, fN, z3, fr, z2, fs, th, om, tm, u1, u2, u3, u4, u5, u6, fo, hI, hfe, hfk, hP, hD, hS⟩ := hW
  have hI0 := hI
  obtain ⟨hn40, hg, hwi, hct, hpn, hun, hnm, hnz, hdp, hKN, hSR⟩ := hI0
  have hmn := kn_le hKN hSR
  have hm : m ≤ 40 := Nat.le_trans hmn hn40
  have hki : ∀ j, j < m → ki j < n := fun j h => (hKN.1 j h).1
  have hcb : ∀ k, k < n → ct k < 2 ^ 31 := fun k h => by have := hct k h; omega
  have hnb : ∀ k, k < n → nm k < 2 ^ 31 := fun k h => by have := hnm k h; omega
  have hmz : ∀ i, i < n → ct i = 0 → m < n := fun i h h0 => kn_lt hKN hSR h h0
  have hkinj := srt_inj hSR
  have hkn := hKN.2
  have heai := q_poolinj hD
  have hR0 : va_P D vwCl [] s.heap := q_Pof (fun _ h => absurd h List.not_mem_nil)
  have hR := hR0
  have hna : ∀ q ∈ ([] : va_W), ¬ A q.1 := fun q h => absurd h List.not_mem_nil
  have hnR : (([] : va_W).map (·.1)).Nodup := List.nodup_nil
  refine lv_aload_n hx hb dL_law_1619 rfl (lv_at hl 1 rfl) ?_
  refine lv_aload_n hx hb dL_law_1620 rfl (lv_at hl 0 rfl) ?_
  refine lv_iload hx hb dL_law_1621 (lv_at hl 4 rfl) ?_
  refine lv_iconst (v := nI 1) hx hb dL_law_1623 (by decide) ?_
  refine q_iadd (d := i + 1) hx hb dL_law_1624 (by omega) ?_
  refine va_sld hx hb hX hbl hbA hS (vp_in_nI (n := i + 1) (N := L) (by omega) (by omega)) dL_law_1625 ?_
  rw [nI_clamp (n := i + 1) (by omega)]
  refine lv_i2l hx hb dL_law_1626 rfl ?_
  refine lv_bipush (v := nI 32) hx hb dL_law_1627 (by decide) ?_
  refine lv_lshl hx hb dL_law_1629 rfl ?_
  refine lv_aload_n hx hb dL_law_1630 rfl (lv_at hl 0 rfl) ?_
  refine lv_iload hx hb dL_law_1631 (lv_at hl 4 rfl) ?_
  refine lv_iconst (v := nI 2) hx hb dL_law_1633 (by decide) ?_
  refine q_iadd (d := i + 2) hx hb dL_law_1634 (by omega) ?_
  refine va_sld hx hb hX hbl hbA hS (vp_in_nI (n := i + 2) (N := L) (by omega) (by omega)) dL_law_1635 ?_
  rw [nI_clamp (n := i + 2) (by omega)]
  refine lv_i2l hx hb dL_law_1636 rfl ?_
  refine lv_ldc2 (v := 4294967295) hx hb hown (hts (.constantLong RL 80 (4294967295)) (List.mem_of_getElem? (i := 7) rfl)) dL_law_1637 ?_
  refine q_cvl (show (4294967295 : Int64) = lN 4294967295 by decide) ?_
  refine lv_land hx hb dL_law_1640 ?_
  refine lv_lor hx hb dL_law_1641 ?_
  obtain ⟨a, ha, hqa⟩ := q_lN ((((xs (i + 1)).toInt64) <<< ((nI 32).toInt64 &&& 63)) ||| (((xs (i + 2)).toInt64) &&& (lN 4294967295)))
  refine q_cvl hqa ?_
  refine lv_aload_n hx hb dL_law_1642 rfl (lv_at hl 0 rfl) ?_
  refine lv_iload hx hb dL_law_1643 (lv_at hl 4 rfl) ?_
  refine lv_iconst (v := nI 3) hx hb dL_law_1645 (by decide) ?_
  refine q_iadd (d := i + 3) hx hb dL_law_1646 (by omega) ?_
  refine va_sld hx hb hX hbl hbA hS (vp_in_nI (n := i + 3) (N := L) (by omega) (by omega)) dL_law_1647 ?_
  rw [nI_clamp (n := i + 3) (by omega)]
  refine lv_aload_n hx hb dL_law_1648 rfl (lv_at hl 3 rfl) ?_
  have hF := va_free (wc := [(out, .inl (cO, 1, .inr (.inl fo))), (n2, .inr (3, [.ref l2, .int z2])), (l2, .inl (cJ2, 56, .inr (.inl fs)))]) hD hS hA [28, 14, 15] rfl
  refine va_calli (vx_runSW (As := [.ref xo, .long (lN a), .int (xs (i + 3)), .ref out]) (rest := []) ⟨hx, hb, hml, hown, hts⟩ (c_L_neighbourhood (l := l) (D := D) (xo := xo) (gg := gg) (gr := gr) (ce := ce) (tr := tr) (sh := sh) (ar := ar) (ti := ti) (n1 := n1) (l1 := l1) (s2 := s2) (a2 := a2) (s3 := s3) (a3 := a3) (n2 := n2) (l2 := l2) (cJ2 := cJ2) (fs := fs) (z2 := z2) (a := a) (x9 := xs (i + 3)) (out := out) (cO := cO) (fo := fo) (sz := H.size) (hnd := (q_nds (q_ndl (q_ndsw (q_ndg (l1 := [xo, gg, gr, ce, tr, sh, ar, ti, n1, l1, s2, a2, s3, a3, n2, l2, mo, mw, mct, mp, mnm, m1, m2, mt, mk, mr, ml, mq, out] ++ (rg ea n ++ rg wa n)) (l2 := []) hD hnR hna (by rw [List.map_append, List.map_append, EW_fst, WW_fst]; rfl) rfl))) [28, 14, 15, 0] rfl rfl)) (hst := hst) (ha := by omega)) (vx_cwSW 4 hts gL_law_L_neighbourhood rfl rfl rfl (by decide +kernel) ⟨Nat.le_of_ble_eq_true rfl, Nat.le_of_ble_eq_true rfl⟩) ⟨qWx_blind, (qWx_of (hP.sub (ws' := [(xo, .inr (8, [.ref gg, .ref tr, .ref ti, .ref s2, .ref s3, .ref n2]))]) [0] rfl) (hP.sub (ws' := [(out, .inl (cO, 1, .inr (.inl fo))), (n2, .inr (3, [.ref l2, .int z2])), (l2, .inl (cJ2, 56, .inr (.inl fs)))]) [28, 14, 15] rfl) (hK.sub (tys' := [(cO, .long), (cJ2, .long)]) [17, 5] rfl) hNw (qZ_at hZ hS (fun q h => hF q h)) hXt)⟩ rfl rfl hl.1 rfl (lv_room (Nat.le_of_ble_eq_true rfl)) dL_law_1649 ⟨by show _ ≤ 601024; omega, by show _ ≤ 7293034; omega⟩) hS (fun q _ h => hF q h) hF (fun rv8 u_5 t_4 H_2 locs_3 ht hvm hrv8 hB hz1 hk1 hS => ?_)
  obtain ⟨z4_6, fs2_7, fo8⟩ := u_5
  dsimp only at hrv8 hB
  replace hB : va_P D vwCl [(out, .inl (cO, 1, .inr (.inl fo8))), (n2, .inr (3, [.ref l2, .int z4_6])), (l2, .inl (cJ2, 56, .inr (.inl fs2_7)))] H_2 := by rw [← ht]; exact hB
  obtain ⟨hP, hD⟩ := q_join (wc := [(out, .inl (cO, 1, .inr (.inl fo))), (n2, .inr (3, [.ref l2, .int z2])), (l2, .inl (cJ2, 56, .inr (.inl fs)))]) (w1 := [(out, .inl (cO, 1, .inr (.inl fo8))), (n2, .inr (3, [.ref l2, .int z4_6])), (l2, .inl (cJ2, 56, .inr (.inl fs2_7)))]) (ws' := [(xo, .inr (8, [.ref gg, .ref tr, .ref ti, .ref s2, .ref s3, .ref n2])), (gg, .inr (1, [.ref gr])), (gr, .inr (2, [.ref ce])), (ce, .inl (cG, 121, .inl fc)), (tr, .inr (5, [.ref sh])), (sh, .inr (4, [.ref ar, .int (nI n)])), (ar, .inl (cS, 40, .inr (.inr (.inr (.inr f))))), (ti, .inr (6, [.ref n1])), (n1, .inr (3, [.ref l1, .int z1])), (l1, .inl (cJ1, 401, .inr (.inl fN))), (s2, .inr (4, [.ref a2, .int (nI m)])), (a2, .inl (cS2, 40, .inr (.inr (.inr (.inr fk))))), (s3, .inr (4, [.ref a3, .int z3])), (a3, .inl (cS3, 40, .inr (.inr (.inr (.inr fr))))), (n2, .inr (3, [.ref l2, .int z4_6])), (l2, .inl (cJ2, 56, .inr (.inl fs2_7))), (mo, .inr (9, [.int th, .int (nI n), .ref mw, .ref mct, .ref mp, .ref mnm, .ref m1, .ref m2, .int om, .int tm, .ref mt, .ref mk, .ref mr, .ref ml, .ref mq])), (mw, .inl (k1, 40, .inr (.inl (fun k9 => lN (wd k9))))), (mct, .inl (k2, 40, .inl (fun k9 => nI (ct k9)))), (mp, .inl (k3, 40, .inl (fun k9 => pin (pa k9)))), (mnm, .inl (k4, 40, .inl (fun k9 => nI (nm k9)))), (m1, .inl (k5, 11, .inl u1)), (m2, .inl (k6, 11, .inl u2)), (mt, .inl (k7, 121, .inl u3)), (mk, .inl (k8, 27, .inl (fun k9 => nI (kyf k9)))), (mr, .inl (k9c, 401, .inr (.inl u4))), (ml, .inl (k10, 64, .inr (.inl u5))), (mq, .inl (k11, 64, .inr (.inl u6))), (out, .inl (cO, 1, .inr (.inl fo8)))] ++ (EW ea wa (fun k => (pa k).map ea) nm dp ct ic lf pt n ++ WW wa wd n)) [28, 14, 15] hP hD rfl rfl hk1 hB rfl
  have hR := q_ro hR0 hna hS
  have hF8 := hrv8
  refine lv_istore (lv' := [(5, .int rv8), (0, .ref b), (1, .ref xo), (2, .ref mo), (3, .ref out), (4, .int (nI i))]) hx hb dL_law_1652 hl (by decide) rfl (fun ls hl => ?_)
  refine lv_aload_n hx hb dL_law_1654 rfl (lv_at hl 3 rfl) ?_
  refine lv_aload_n hx hb dL_law_1655 rfl (lv_at hl 1 rfl) ?_
  refine lv_iload hx hb dL_law_1656 (lv_at hl 5 rfl) ?_
  refine lv_iconst (v := nI 1) hx hb dL_law_1658 (by decide) ?_
  refine q_iadd (d := i + 1) hx hb dL_law_1659 (by omega) ?_
  refine va_sld hx hb hX hbl hbA hS (vp_in_nI (n := i + 1) (N := L) (by omega) (by omega)) dL_law_1660 ?_
  rw [nI_clamp (n := i + 1) (by omega)]
  refine lv_i2l hx hb dL_law_1661 rfl ?_
  refine lv_bipush (v := nI 32) hx hb dL_law_1662 (by decide) ?_
  refine lv_lshl hx hb dL_law_1664 rfl ?_
  refine lv_aload_n hx hb dL_law_1665 rfl (lv_at hl 1 rfl) ?_
  refine lv_iload hx hb dL_law_1666 (lv_at hl 5 rfl) ?_
  refine lv_iconst (v := nI 2) hx hb dL_law_1668 (by decide) ?_
  refine q_iadd (d := i + 2) hx hb dL_law_1669 (by omega) ?_
  refine va_sld hx hb hX hbl hbA hS (vp_in_nI (n := i + 2) (N := L) (by omega) (by omega)) dL_law_1670 ?_
  rw [nI_clamp (n := i + 2) (by omega)]
  refine lv_i2l hx hb dL_law_1671 rfl ?_
  refine lv_ldc2 (v := 4294967295) hx hb hown (hts (.constantLong RL 80 (4294967295)) (List.mem_of_getElem? (i := 7) rfl)) dL_law_1672 ?_
  refine q_cvl (show (4294967295 : Int64) = lN 4294967295 by decide) ?_
  refine lv_land hx hb dL_law_1675 ?_
  refine lv_lor hx hb dL_law_1676 ?_
  refine q_cvl hqa ?_
  refine lv_aload_n hx hb dL_law_1677 rfl (lv_at hl 1 rfl) ?_
  refine lv_iload hx hb dL_law_1678 (lv_at hl 5 rfl) ?_
  refine lv_iconst (v := nI 3) hx hb dL_law_1680 (by decide) ?_
  refine q_iadd (d := i + 3) hx hb dL_law_1681 (by omega) ?_
  refine va_sld hx hb hX hbl hbA hS (vp_in_nI (n := i + 3) (N := L) (by omega) (by omega)) dL_law_1682 ?_
  rw [nI_clamp (n := i + 3) (by omega)]
  have hF := va_free (wc := [(mo, .inr (9, [.int th, .int (nI n), .ref mw, .ref mct, .ref mp, .ref mnm, .ref m1, .ref m2, .int om, .int tm, .ref mt, .ref mk, .ref mr, .ref ml, .ref mq])), (ml, .inl (k10, 64, .inr (.inl u5)))]) hD hS hA [16, 26] rfl
  refine va_calli (va_runV (As := [.long (lN a), .int (xs (i + 3))]) (rest := []) ⟨hx, hb, hml, hown, hts⟩ (c_X10_neighbourhood (l := l) (D := D) (mo := mo) (mw := mw) (mct := mct) (mp := mp) (mnm := mnm) (m1 := m1) (m2 := m2) (mt := mt) (mk := mk) (mr := mr) (ml := ml) (mq := mq) (k10 := k10) (th := th) (n := n) (om := om) (tm := tm) (fl := u5) (a := a) (x9 := xs (i + 3)) (sz := H_2.size) (hnd := (q_nds (q_ndl (q_ndsw (q_ndg (l1 := [xo, gg, gr, ce, tr, sh, ar, ti, n1, l1, s2, a2, s3, a3, n2, l2, mo, mw, mct, mp, mnm, m1, m2, mt, mk, mr, ml, mq, out] ++ (rg ea n ++ rg wa n)) (l2 := []) hD hnR hna (by rw [List.map_append, List.map_append, EW_fst, WW_fst]; rfl) rfl))) [16, 26] rfl rfl)) (ha := by omega)) (cwV 2 hts gL_law_X10_neighbourhood rfl rfl rfl (by decide +kernel) ⟨Nat.le_of_ble_eq_true rfl, Nat.le_of_ble_eq_true rfl⟩) ⟨qW_blind, (va_recv hK hP (ci := 9) (q0 := 16) rfl rfl), (qW_of (q_Pof (fun _ h => absurd h List.not_mem_nil)) (hP.sub (ws' := [(mo, .inr (9, [.int th, .int (nI n), .ref mw, .ref mct, .ref mp, .ref mnm, .ref m1, .ref m2, .int om, .int tm, .ref mt, .ref mk, .ref mr, .ref ml, .ref mq])), (ml, .inl (k10, 64, .inr (.inl u5)))]) [16, 26] rfl) (hK.sub (tys' := [(k10, .long)]) [15] rfl) hNw)⟩ rfl rfl hl.1 rfl (lv_room (Nat.le_of_ble_eq_true rfl)) dL_law_1683 ⟨by show _ ≤ 601024; omega, by show _ ≤ 7293034; omega⟩) hS (fun q _ h => hF q h) hF (fun rb8 u_12 t_11 H_9 locs_10 ht hvm hrb8 hB hz1 hk1 hS => ?_)
  obtain ⟨t8, g5_13⟩ := u_12
  dsimp only at hrb8 hB
  replace hB : va_P D vwCl [(mo, .inr (9, [.int t8, .int (nI n), .ref mw, .ref mct, .ref mp, .ref mnm, .ref m1, .ref m2, .int om, .int tm, .ref mt, .ref mk, .ref mr, .ref ml, .ref mq])), (ml, .inl (k10, 64, .inr (.inl g5_13)))] H_9 := by rw [← ht]; exact hB
  obtain ⟨hP, hD⟩ := q_join (wc := [(mo, .inr (9, [.int th, .int (nI n), .ref mw, .ref mct, .ref mp, .ref mnm, .ref m1, .ref m2, .int om, .int tm, .ref mt, .ref mk, .ref mr, .ref ml, .ref mq])), (ml, .inl (k10, 64, .inr (.inl u5)))]) (w1 := [(mo, .inr (9, [.int t8, .int (nI n), .ref mw, .ref mct, .ref mp, .ref mnm, .ref m1, .ref m2, .int om, .int tm, .ref mt, .ref mk, .ref mr, .ref ml, .ref mq])), (ml, .inl (k10, 64, .inr (.inl g5_13)))]) (ws' := [(xo, .inr (8, [.ref gg, .ref tr, .ref ti, .ref s2, .ref s3, .ref n2])), (gg, .inr (1, [.ref gr])), (gr, .inr (2, [.ref ce])), (ce, .inl (cG, 121, .inl fc)), (tr, .inr (5, [.ref sh])), (sh, .inr (4, [.ref ar, .int (nI n)])), (ar, .inl (cS, 40, .inr (.inr (.inr (.inr f))))), (ti, .inr (6, [.ref n1])), (n1, .inr (3, [.ref l1, .int z1])), (l1, .inl (cJ1, 401, .inr (.inl fN))), (s2, .inr (4, [.ref a2, .int (nI m)])), (a2, .inl (cS2, 40, .inr (.inr (.inr (.inr fk))))), (s3, .inr (4, [.ref a3, .int z3])), (a3, .inl (cS3, 40, .inr (.inr (.inr (.inr fr))))), (n2, .inr (3, [.ref l2, .int z4_6])), (l2, .inl (cJ2, 56, .inr (.inl fs2_7))), (mo, .inr (9, [.int t8, .int (nI n), .ref mw, .ref mct, .ref mp, .ref mnm, .ref m1, .ref m2, .int om, .int tm, .ref mt, .ref mk, .ref mr, .ref ml, .ref mq])), (mw, .inl (k1, 40, .inr (.inl (fun k9 => lN (wd k9))))), (mct, .inl (k2, 40, .inl (fun k9 => nI (ct k9)))), (mp, .inl (k3, 40, .inl (fun k9 => pin (pa k9)))), (mnm, .inl (k4, 40, .inl (fun k9 => nI (nm k9)))), (m1, .inl (k5, 11, .inl u1)), (m2, .inl (k6, 11, .inl u2)), (mt, .inl (k7, 121, .inl u3)), (mk, .inl (k8, 27, .inl (fun k9 => nI (kyf k9)))), (mr, .inl (k9c, 401, .inr (.inl u4))), (ml, .inl (k10, 64, .inr (.inl g5_13))), (mq, .inl (k11, 64, .inr (.inl u6))), (out, .inl (cO, 1, .inr (.inl fo8)))] ++ (EW ea wa (fun k => (pa k).map ea) nm dp ct ic lf pt n ++ WW wa wd n)) [16, 26] hP hD rfl rfl hk1 hB rfl
  have hR := q_ro hR0 hna hS
  obtain ⟨g80, g81⟩ := hrb8
  have hE : t8 = rv8 ∧ (rv8 = 0 → fo8 0 = (rb8).toInt64) := q_hv1 hF8 g80 (fun h9 => by rw [g81 h9, nbh_eq (by exact kz_le (by decide) h9.2.1 h9.2.2)])
  refine lv_istore (lv' := [(6, .int rb8), (5, .int rv8), (0, .ref b), (1, .ref xo), (2, .ref mo), (3, .ref out), (4, .int (nI i))]) hx hb dL_law_1686 hl (by decide) rfl (fun ls hl => ?_)
  refine lv_aload_n hx hb dL_law_1688 rfl (lv_at hl 4 rfl) ?_
  refine vp_callSi (W.runV (As := []) (rest := []) ⟨hx, hb, hml, hown, hts⟩ (c_X10_thrown (l := l) (D := D) (mo := mo) (mw := mw) (mct := mct) (mp := mp) (mnm := mnm) (m1 := m1) (m2 := m2) (mt := mt) (mk := mk) (mr := mr) (ml := ml) (mq := mq) (th := t8) (n := n) (om := om) (tm := tm) ) (cwV 0 hts gL_law_X10_thrown rfl rfl rfl (by decide +kernel) ⟨Nat.le_of_ble_eq_true rfl, Nat.le_of_ble_eq_true rfl⟩) ⟨qP_blind, (va_recv hK hP (ci := 9) (q0 := 16) rfl rfl), (qP_of (hP.sub (ws' := [(mo, .inr (9, [.int t8, .int (nI n), .ref mw, .ref mct, .ref mp, .ref mnm, .ref m1, .ref m2, .int om, .int tm, .ref mt, .ref mk, .ref mr, .ref ml, .ref mq]))]) [16] rfl) (hK.sub (tys' := []) [] rfl) hNw)⟩ rfl rfl hl.1 rfl (lv_room (Nat.le_of_ble_eq_true rfl)) dL_law_1689 ⟨by show _ ≤ 601024; omega, by show _ ≤ 7293034; omega⟩) (fun r_14 hr_14 => ?_)
  have hr_14 := hr_14.symm
  subst hr_14
  refine lv_iload hx hb dL_law_1692 (lv_at hl 1 rfl) ?_
  refine lv_icmp_eq (tgt := 1699) hx hb dL_law_1694 (by decide) (fun c_1694 => ?_) (fun c_1694 => False.elim (by exact c_1694 hE.1))
  refine lv_iload hx hb dL_law_1699 (lv_at hl 1 rfl) ?_
  refine lv_if_ne (tgt := 1716) hx hb dL_law_1701 (by decide) (fun c_1701 => ?_) (fun c_1701 => ?_)
  · skip
    refine lv_goto (tgt := 1919) hx hb dL_law_1716 (by decide) ?_
    exact K _ _ _ _ _ ⟨n, m, wd, ct, pa, nm, dp, ki, ea, wa, ic, lf, pt, f, fk, fc, z1, fN, z3, fr, z4_6, fs2_7, t8, om, tm, u1, u2, u3, u4, g5_13, u6, fo8, hI, hfe, hfk, hP, hD, hS⟩ (lv_sub hl [2, 3, 4, 5, 6] rfl) (by omega) (by omega)
  · skip
    refine lv_aload_n hx hb dL_law_1704 rfl (lv_at hl 5 rfl) ?_
    refine lv_iconst (v := nI 0) hx hb dL_law_1705 (by decide) ?_
    refine va_lald (D := D) hx hb hK hP 28 17 rfl rfl (vp_in_nI (n := 0) (N := 1) (by omega) (by decide)) dL_law_1706 ?_
    rw [nI_clamp (n := 0) (by omega)]
    refine lv_iload hx hb dL_law_1707 (lv_at hl 0 rfl) ?_
    refine lv_i2l hx hb dL_law_1709 rfl ?_
    refine W.lcmp hx hb dL_law_1710 ?_
    refine q_lr_eq (tgt := 1716) hx hb dL_law_1711 (by decide) (fun c_1711 => ?_) (fun c_1711 => False.elim (by exact c_1711 (hE.2 c_1701)))
    refine lv_goto (tgt := 1919) hx hb dL_law_1716 (by decide) ?_
    exact K _ _ _ _ _ ⟨n, m, wd, ct, pa, nm, dp, ki, ea, wa, ic, lf, pt, f, fk, fc, z1, fN, z3, fr, z4_6, fs2_7, t8, om, tm, u1, u2, u3, u4, g5_13, u6, fo8, hI, hfe, hfk, hP, hD, hS⟩ (lv_sub hl [2, 3, 4, 5, 6] rfl) (by omega) (by omega)

set_option maxHeartbeats 4000000 in
set_option maxRecDepth 100000 in
/-- candidates -/
theorem lw_c1719 {p : Program} {l : Launch} {e : Env} {s : State} {mi9 : MethodId} {belowM : List Frame} {methM : Method} {cM : Code} {Q : State → Prop} {D : va_G} {A : Nat → Prop} {b L i : Nat} {xs : Nat → Int32} {xo gg gr ce tr sh ar ti n1 l1 s2 a2 s3 a3 n2 l2 mo mw mct mp mnm m1 m2 mt mk mr ml mq out : Nat} {cS cS2 cG cJ1 cS3 cJ2 k1 k2 k3 k4 k5 k6 k7 k8 k9c k10 k11 cO : ClassId} {H : Heap} {locs : List Loc} {ls : Array Slot} {cells slots : Nat} (hE : LWE p l s mi9 cM D A b L xs [(cG, .int), (cS, .object "FuzzyFens$Entry"), (cJ1, .long), (cS2, .object "FuzzyFens$Entry"), (cS3, .object "FuzzyFens$Entry"), (cJ2, .long), (k1, .long), (k2, .int), (k3, .int), (k4, .int), (k5, .int), (k6, .int), (k7, .int), (k8, .int), (k9c, .long), (k10, .long), (k11, .long), (cO, .long)]) (hi : i + 5 ≤ L) (hW : LWI D s A xo gg gr ce tr sh ar ti n1 l1 s2 a2 s3 a3 n2 l2 mo mw mct mp mnm m1 m2 mt mk mr ml mq out cS cS2 cG cJ1 cS3 cJ2 k1 k2 k3 k4 k5 k6 k7 k8 k9c k10 k11 cO H locs) (hl : lv_has ls 8 [(0, .ref b), (1, .ref xo), (2, .ref mo), (3, .ref out), (4, .int (nI i))]) (hc9 : cells + 8 ≤ 601024) (hs9 : slots + 64 ≤ 7293034) (K : LWK p l e s mi9 belowM methM cM Q D A b i xo gg gr ce tr sh ar ti n1 l1 s2 a2 s3 a3 n2 l2 mo mw mct mp mnm m1 m2 mt mk mr ml mq out cS cS2 cG cJ1 cS3 cJ2 k1 k2 k3 k4 k5 k6 k7 k8 k9c k10 k11 cO cells slots) : W p l e room_1 s mi9 #[Value.ref b] belowM methM cM H locs cells slots Q (F0 mi9 1719 ls []) := by
  obtain ⟨hx, hb, hml, hown, hts, hX, hbl, hbA, hA, hK, hNw, hZ, hXt, hst, hL⟩ := hE
  obtain ⟨n, m, wd, ct, pa, nm, dp, ki, ea, wa, ic, lf, pt, f, fk, fc, z1, fN, z3, fr, z2, fs, th, om, tm, u1, u2, u3, u4, u5, u6, fo, hI, hfe, hfk, hP, hD, hS⟩ := hW
  have hI0 := hI
  obtain ⟨hn40, hg, hwi, hct, hpn, hun, hnm, hnz, hdp, hKN, hSR⟩ := hI0
  have hmn := kn_le hKN hSR
  have hm : m ≤ 40 := Nat.le_trans hmn hn40
  have hki : ∀ j, j < m → ki j < n := fun j h => (hKN.1 j h).1
  have hcb : ∀ k, k < n → ct k < 2 ^ 31 := fun k h => by have := hct k h; omega
  have hnb : ∀ k, k < n → nm k < 2 ^ 31 := fun k h => by have := hnm k h; omega
  have hmz : ∀ i, i < n → ct i = 0 → m < n := fun i h h0 => kn_lt hKN hSR h h0
  have hkinj := srt_inj hSR
  have hkn := hKN.2
  have heai := q_poolinj hD
  have hR0 : va_P D vwCl [] s.heap := q_Pof (fun _ h => absurd h List.not_mem_nil)
  have hR := hR0
  have hna : ∀ q ∈ ([] : va_W), ¬ A q.1 := fun q h => absurd h List.not_mem_nil
  have hnR : (([] : va_W).map (·.1)).Nodup := List.nodup_nil
  refine lv_aload_n hx hb dL_law_1719 rfl (lv_at hl 1 rfl) ?_
  refine lv_aload_n hx hb dL_law_1720 rfl (lv_at hl 0 rfl) ?_
  refine lv_iload hx hb dL_law_1721 (lv_at hl 4 rfl) ?_
  refine lv_iconst (v := nI 1) hx hb dL_law_1723 (by decide) ?_
  refine q_iadd (d := i + 1) hx hb dL_law_1724 (by omega) ?_
  refine va_sld hx hb hX hbl hbA hS (vp_in_nI (n := i + 1) (N := L) (by omega) (by omega)) dL_law_1725 ?_
  rw [nI_clamp (n := i + 1) (by omega)]
  refine lv_i2l hx hb dL_law_1726 rfl ?_
  refine lv_bipush (v := nI 32) hx hb dL_law_1727 (by decide) ?_
  refine lv_lshl hx hb dL_law_1729 rfl ?_
  refine lv_aload_n hx hb dL_law_1730 rfl (lv_at hl 0 rfl) ?_
  refine lv_iload hx hb dL_law_1731 (lv_at hl 4 rfl) ?_
  refine lv_iconst (v := nI 2) hx hb dL_law_1733 (by decide) ?_
  refine q_iadd (d := i + 2) hx hb dL_law_1734 (by omega) ?_
  refine va_sld hx hb hX hbl hbA hS (vp_in_nI (n := i + 2) (N := L) (by omega) (by omega)) dL_law_1735 ?_
  rw [nI_clamp (n := i + 2) (by omega)]
  refine lv_i2l hx hb dL_law_1736 rfl ?_
  refine lv_ldc2 (v := 4294967295) hx hb hown (hts (.constantLong RL 80 (4294967295)) (List.mem_of_getElem? (i := 7) rfl)) dL_law_1737 ?_
  refine q_cvl (show (4294967295 : Int64) = lN 4294967295 by decide) ?_
  refine lv_land hx hb dL_law_1740 ?_
  refine lv_lor hx hb dL_law_1741 ?_
  obtain ⟨a, ha, hqa⟩ := q_lN ((((xs (i + 1)).toInt64) <<< ((nI 32).toInt64 &&& 63)) ||| (((xs (i + 2)).toInt64) &&& (lN 4294967295)))
  refine q_cvl hqa ?_
  refine lv_aload_n hx hb dL_law_1742 rfl (lv_at hl 0 rfl) ?_
  refine lv_iload hx hb dL_law_1743 (lv_at hl 4 rfl) ?_
  refine lv_iconst (v := nI 3) hx hb dL_law_1745 (by decide) ?_
  refine q_iadd (d := i + 3) hx hb dL_law_1746 (by omega) ?_
  refine va_sld hx hb hX hbl hbA hS (vp_in_nI (n := i + 3) (N := L) (by omega) (by omega)) dL_law_1747 ?_
  rw [nI_clamp (n := i + 3) (by omega)]
  refine lv_aload_n hx hb dL_law_1748 rfl (lv_at hl 3 rfl) ?_
  have hF := va_free (wc := [(out, .inl (cO, 1, .inr (.inl fo))), (ce, .inl (cG, 121, .inl fc))]) hD hS hA [28, 3] rfl
  refine va_calli (vx_runSW (As := [.ref xo, .long (lN a), .int (xs (i + 3)), .ref out]) (rest := []) ⟨hx, hb, hml, hown, hts⟩ (c_L_candidates (l := l) (D := D) (xo := xo) (gg := gg) (gr := gr) (ce := ce) (tr := tr) (sh := sh) (ar := ar) (ti := ti) (n1 := n1) (l1 := l1) (s2 := s2) (a2 := a2) (s3 := s3) (a3 := a3) (n2 := n2) (l2 := l2) (cS2 := cS2) (fk := fk) (m := m) (ki := ki) (ea := ea) (wa := wa) (pf := (fun k => (pa k).map ea)) (cn := nm) (dp := dp) (oc := ct) (ic := ic) (lf := lf) (pt := pt) (wd := wd) (n := n) (cG := cG) (fc := fc) (a := a) (x9 := xs (i + 3)) (out := out) (cO := cO) (fo := fo) (sz := H.size) (hnd := (q_ndt (q_ndsw (q_ndg (l1 := [xo, gg, gr, ce, tr, sh, ar, ti, n1, l1, s2, a2, s3, a3, n2, l2, mo, mw, mct, mp, mnm, m1, m2, mt, mk, mr, ml, mq, out] ++ (rg ea n ++ rg wa n)) (l2 := []) hD hnR hna (by rw [List.map_append, List.map_append, EW_fst, WW_fst]; rfl) rfl)) [28, 3, 0, 1, 2, 10, 11] rfl rfl)) (hst := hst) (ha := by omega) (hm := hm) (hf := hfk) (hki := hki) (hg := hg)) (vx_cwSW 4 hts gL_law_L_candidates rfl rfl rfl (by decide +kernel) ⟨Nat.le_of_ble_eq_true rfl, Nat.le_of_ble_eq_true rfl⟩) ⟨qWx_blind, (qWx_of (va_P.app (hP.sub (ws' := [(xo, .inr (8, [.ref gg, .ref tr, .ref ti, .ref s2, .ref s3, .ref n2])), (gg, .inr (1, [.ref gr])), (gr, .inr (2, [.ref ce])), (s2, .inr (4, [.ref a2, .int (nI m)])), (a2, .inl (cS2, 40, .inr (.inr (.inr (.inr fk)))))]) [0, 1, 2, 10, 11] rfl) (q_right hP)) (hP.sub (ws' := [(out, .inl (cO, 1, .inr (.inl fo))), (ce, .inl (cG, 121, .inl fc))]) [28, 3] rfl) (hK.sub (tys' := [(cO, .long), (cG, .int), (cS2, .object "FuzzyFens$Entry")]) [17, 0, 3] rfl) hNw (qZ_at hZ hS (fun q h => hF q h)) hXt)⟩ rfl rfl hl.1 rfl (lv_room (Nat.le_of_ble_eq_true rfl)) dL_law_1749 ⟨by show _ ≤ 601024; omega, by show _ ≤ 7293034; omega⟩) hS (fun q _ h => hF q h) hF (fun rv8 u_5 t_4 H_2 locs_3 ht hvm hrv8 hB hz1 hk1 hS => ?_)
  obtain ⟨fc2_6, fo8⟩ := u_5
  dsimp only at hrv8 hB
  replace hB : va_P D vwCl [(out, .inl (cO, 1, .inr (.inl fo8))), (ce, .inl (cG, 121, .inl fc2_6))] H_2 := by rw [← ht]; exact hB
  obtain ⟨hP, hD⟩ := q_join (wc := [(out, .inl (cO, 1, .inr (.inl fo))), (ce, .inl (cG, 121, .inl fc))]) (w1 := [(out, .inl (cO, 1, .inr (.inl fo8))), (ce, .inl (cG, 121, .inl fc2_6))]) (ws' := [(xo, .inr (8, [.ref gg, .ref tr, .ref ti, .ref s2, .ref s3, .ref n2])), (gg, .inr (1, [.ref gr])), (gr, .inr (2, [.ref ce])), (ce, .inl (cG, 121, .inl fc2_6)), (tr, .inr (5, [.ref sh])), (sh, .inr (4, [.ref ar, .int (nI n)])), (ar, .inl (cS, 40, .inr (.inr (.inr (.inr f))))), (ti, .inr (6, [.ref n1])), (n1, .inr (3, [.ref l1, .int z1])), (l1, .inl (cJ1, 401, .inr (.inl fN))), (s2, .inr (4, [.ref a2, .int (nI m)])), (a2, .inl (cS2, 40, .inr (.inr (.inr (.inr fk))))), (s3, .inr (4, [.ref a3, .int z3])), (a3, .inl (cS3, 40, .inr (.inr (.inr (.inr fr))))), (n2, .inr (3, [.ref l2, .int z2])), (l2, .inl (cJ2, 56, .inr (.inl fs))), (mo, .inr (9, [.int th, .int (nI n), .ref mw, .ref mct, .ref mp, .ref mnm, .ref m1, .ref m2, .int om, .int tm, .ref mt, .ref mk, .ref mr, .ref ml, .ref mq])), (mw, .inl (k1, 40, .inr (.inl (fun k9 => lN (wd k9))))), (mct, .inl (k2, 40, .inl (fun k9 => nI (ct k9)))), (mp, .inl (k3, 40, .inl (fun k9 => pin (pa k9)))), (mnm, .inl (k4, 40, .inl (fun k9 => nI (nm k9)))), (m1, .inl (k5, 11, .inl u1)), (m2, .inl (k6, 11, .inl u2)), (mt, .inl (k7, 121, .inl u3)), (mk, .inl (k8, 27, .inl (fun k9 => nI (kyf k9)))), (mr, .inl (k9c, 401, .inr (.inl u4))), (ml, .inl (k10, 64, .inr (.inl u5))), (mq, .inl (k11, 64, .inr (.inl u6))), (out, .inl (cO, 1, .inr (.inl fo8)))] ++ (EW ea wa (fun k => (pa k).map ea) nm dp ct ic lf pt n ++ WW wa wd n)) [28, 3] hP hD rfl rfl hk1 hB rfl
  have hR := q_ro hR0 hna hS
  have hF8 := hrv8
  refine lv_istore (lv' := [(5, .int rv8), (0, .ref b), (1, .ref xo), (2, .ref mo), (3, .ref out), (4, .int (nI i))]) hx hb dL_law_1752 hl (by decide) rfl (fun ls hl => ?_)
  refine lv_aload_n hx hb dL_law_1754 rfl (lv_at hl 3 rfl) ?_
  refine lv_aload_n hx hb dL_law_1755 rfl (lv_at hl 1 rfl) ?_
  refine lv_iload hx hb dL_law_1756 (lv_at hl 5 rfl) ?_
  refine lv_iconst (v := nI 1) hx hb dL_law_1758 (by decide) ?_
  refine q_iadd (d := i + 1) hx hb dL_law_1759 (by omega) ?_
  refine va_sld hx hb hX hbl hbA hS (vp_in_nI (n := i + 1) (N := L) (by omega) (by omega)) dL_law_1760 ?_
  rw [nI_clamp (n := i + 1) (by omega)]
  refine lv_i2l hx hb dL_law_1761 rfl ?_
  refine lv_bipush (v := nI 32) hx hb dL_law_1762 (by decide) ?_
  refine lv_lshl hx hb dL_law_1764 rfl ?_
  refine lv_aload_n hx hb dL_law_1765 rfl (lv_at hl 1 rfl) ?_
  refine lv_iload hx hb dL_law_1766 (lv_at hl 5 rfl) ?_
  refine lv_iconst (v := nI 2) hx hb dL_law_1768 (by decide) ?_
  refine q_iadd (d := i + 2) hx hb dL_law_1769 (by omega) ?_
  refine va_sld hx hb hX hbl hbA hS (vp_in_nI (n := i + 2) (N := L) (by omega) (by omega)) dL_law_1770 ?_
  rw [nI_clamp (n := i + 2) (by omega)]
  refine lv_i2l hx hb dL_law_1771 rfl ?_
  refine lv_ldc2 (v := 4294967295) hx hb hown (hts (.constantLong RL 80 (4294967295)) (List.mem_of_getElem? (i := 7) rfl)) dL_law_1772 ?_
  refine q_cvl (show (4294967295 : Int64) = lN 4294967295 by decide) ?_
  refine lv_land hx hb dL_law_1775 ?_
  refine lv_lor hx hb dL_law_1776 ?_
  refine q_cvl hqa ?_
  refine lv_aload_n hx hb dL_law_1777 rfl (lv_at hl 1 rfl) ?_
  refine lv_iload hx hb dL_law_1778 (lv_at hl 5 rfl) ?_
  refine lv_iconst (v := nI 3) hx hb dL_law_1780 (by decide) ?_
  refine q_iadd (d := i + 3) hx hb dL_law_1781 (by omega) ?_
  refine va_sld hx hb hX hbl hbA hS (vp_in_nI (n := i + 3) (N := L) (by omega) (by omega)) dL_law_1782 ?_
  rw [nI_clamp (n := i + 3) (by omega)]
  have hF := va_free (wc := [(mo, .inr (9, [.int th, .int (nI n), .ref mw, .ref mct, .ref mp, .ref mnm, .ref m1, .ref m2, .int om, .int tm, .ref mt, .ref mk, .ref mr, .ref ml, .ref mq])), (m1, .inl (k5, 11, .inl u1)), (m2, .inl (k6, 11, .inl u2)), (mt, .inl (k7, 121, .inl u3)), (ml, .inl (k10, 64, .inr (.inl u5))), (mq, .inl (k11, 64, .inr (.inl u6)))]) hD hS hA [16, 21, 22, 23, 26, 27] rfl
  refine va_calli (va_runV (As := [.long (lN a), .int (xs (i + 3))]) (rest := []) ⟨hx, hb, hml, hown, hts⟩ (c_X10_candidates (l := l) (D := D) (mo := mo) (mw := mw) (mct := mct) (mp := mp) (mnm := mnm) (m1 := m1) (m2 := m2) (mt := mt) (mk := mk) (mr := mr) (ml := ml) (mq := mq) (k1 := k1) (k2 := k2) (k5 := k5) (k6 := k6) (k7 := k7) (k10 := k10) (k11 := k11) (th := th) (n := n) (om := om) (tm := tm) (f1 := u1) (f2 := u2) (ft := u3) (fl := u5) (fq := u6) (wd := wd) (ct := ct) (a := a) (x9 := xs (i + 3)) (sz := H_2.size) (hnd := (q_nds (q_ndl (q_ndsw (q_ndg (l1 := [xo, gg, gr, ce, tr, sh, ar, ti, n1, l1, s2, a2, s3, a3, n2, l2, mo, mw, mct, mp, mnm, m1, m2, mt, mk, mr, ml, mq, out] ++ (rg ea n ++ rg wa n)) (l2 := []) hD hnR hna (by rw [List.map_append, List.map_append, EW_fst, WW_fst]; rfl) rfl))) [16, 21, 22, 23, 26, 27, 17, 18] rfl rfl)) (ha := by omega) (hn40 := hn40) (hgw := hg) (hcb := hcb)) (cwV 2 hts gL_law_X10_candidates rfl rfl rfl (by decide +kernel) ⟨Nat.le_of_ble_eq_true rfl, Nat.le_of_ble_eq_true rfl⟩) ⟨qW_blind, (va_recv hK hP (ci := 9) (q0 := 16) rfl rfl), (qW_of (hP.sub (ws' := [(mw, .inl (k1, 40, .inr (.inl (fun k9 => lN (wd k9))))), (mct, .inl (k2, 40, .inl (fun k9 => nI (ct k9))))]) [17, 18] rfl) (hP.sub (ws' := [(mo, .inr (9, [.int th, .int (nI n), .ref mw, .ref mct, .ref mp, .ref mnm, .ref m1, .ref m2, .int om, .int tm, .ref mt, .ref mk, .ref mr, .ref ml, .ref mq])), (m1, .inl (k5, 11, .inl u1)), (m2, .inl (k6, 11, .inl u2)), (mt, .inl (k7, 121, .inl u3)), (ml, .inl (k10, 64, .inr (.inl u5))), (mq, .inl (k11, 64, .inr (.inl u6)))]) [16, 21, 22, 23, 26, 27] rfl) (hK.sub (tys' := [(k5, .int), (k6, .int), (k7, .int), (k10, .long), (k11, .long), (k1, .long), (k2, .int)]) [10, 11, 12, 15, 16, 6, 7] rfl) hNw)⟩ rfl rfl hl.1 rfl (lv_room (Nat.le_of_ble_eq_true rfl)) dL_law_1783 ⟨by show _ ≤ 601024; omega, by show _ ≤ 7293034; omega⟩) hS (fun q _ h => hF q h) hF (fun rb8 u_11 t_10 H_8 locs_9 ht hvm hrb8 hB hz1 hk1 hS => ?_)
  obtain ⟨t8, o2_12, q2_13, g1_14, g2_15, g3_16, g5_17, g6_18⟩ := u_11
  dsimp only at hrb8 hB
  replace hB : va_P D vwCl [(mo, .inr (9, [.int t8, .int (nI n), .ref mw, .ref mct, .ref mp, .ref mnm, .ref m1, .ref m2, .int o2_12, .int q2_13, .ref mt, .ref mk, .ref mr, .ref ml, .ref mq])), (m1, .inl (k5, 11, .inl g1_14)), (m2, .inl (k6, 11, .inl g2_15)), (mt, .inl (k7, 121, .inl g3_16)), (ml, .inl (k10, 64, .inr (.inl g5_17))), (mq, .inl (k11, 64, .inr (.inl g6_18)))] H_8 := by rw [← ht]; exact hB
  obtain ⟨hP, hD⟩ := q_join (wc := [(mo, .inr (9, [.int th, .int (nI n), .ref mw, .ref mct, .ref mp, .ref mnm, .ref m1, .ref m2, .int om, .int tm, .ref mt, .ref mk, .ref mr, .ref ml, .ref mq])), (m1, .inl (k5, 11, .inl u1)), (m2, .inl (k6, 11, .inl u2)), (mt, .inl (k7, 121, .inl u3)), (ml, .inl (k10, 64, .inr (.inl u5))), (mq, .inl (k11, 64, .inr (.inl u6)))]) (w1 := [(mo, .inr (9, [.int t8, .int (nI n), .ref mw, .ref mct, .ref mp, .ref mnm, .ref m1, .ref m2, .int o2_12, .int q2_13, .ref mt, .ref mk, .ref mr, .ref ml, .ref mq])), (m1, .inl (k5, 11, .inl g1_14)), (m2, .inl (k6, 11, .inl g2_15)), (mt, .inl (k7, 121, .inl g3_16)), (ml, .inl (k10, 64, .inr (.inl g5_17))), (mq, .inl (k11, 64, .inr (.inl g6_18)))]) (ws' := [(xo, .inr (8, [.ref gg, .ref tr, .ref ti, .ref s2, .ref s3, .ref n2])), (gg, .inr (1, [.ref gr])), (gr, .inr (2, [.ref ce])), (ce, .inl (cG, 121, .inl fc2_6)), (tr, .inr (5, [.ref sh])), (sh, .inr (4, [.ref ar, .int (nI n)])), (ar, .inl (cS, 40, .inr (.inr (.inr (.inr f))))), (ti, .inr (6, [.ref n1])), (n1, .inr (3, [.ref l1, .int z1])), (l1, .inl (cJ1, 401, .inr (.inl fN))), (s2, .inr (4, [.ref a2, .int (nI m)])), (a2, .inl (cS2, 40, .inr (.inr (.inr (.inr fk))))), (s3, .inr (4, [.ref a3, .int z3])), (a3, .inl (cS3, 40, .inr (.inr (.inr (.inr fr))))), (n2, .inr (3, [.ref l2, .int z2])), (l2, .inl (cJ2, 56, .inr (.inl fs))), (mo, .inr (9, [.int t8, .int (nI n), .ref mw, .ref mct, .ref mp, .ref mnm, .ref m1, .ref m2, .int o2_12, .int q2_13, .ref mt, .ref mk, .ref mr, .ref ml, .ref mq])), (mw, .inl (k1, 40, .inr (.inl (fun k9 => lN (wd k9))))), (mct, .inl (k2, 40, .inl (fun k9 => nI (ct k9)))), (mp, .inl (k3, 40, .inl (fun k9 => pin (pa k9)))), (mnm, .inl (k4, 40, .inl (fun k9 => nI (nm k9)))), (m1, .inl (k5, 11, .inl g1_14)), (m2, .inl (k6, 11, .inl g2_15)), (mt, .inl (k7, 121, .inl g3_16)), (mk, .inl (k8, 27, .inl (fun k9 => nI (kyf k9)))), (mr, .inl (k9c, 401, .inr (.inl u4))), (ml, .inl (k10, 64, .inr (.inl g5_17))), (mq, .inl (k11, 64, .inr (.inl g6_18))), (out, .inl (cO, 1, .inr (.inl fo8)))] ++ (EW ea wa (fun k => (pa k).map ea) nm dp ct ic lf pt n ++ WW wa wd n)) [16, 21, 22, 23, 26, 27] hP hD rfl rfl hk1 hB rfl
  have hR := q_ro hR0 hna hS
  obtain ⟨g80, g81⟩ := hrb8
  have hE : t8 = rv8 ∧ (rv8 = 0 → fo8 0 = (rb8).toInt64) := q_hv1 hF8 g80 (fun h9 => by rw [g81 h9]; exact congrArg (fun z9 => (nI z9).toInt64) (cnt_sub hKN hSR (Q := fun i9 => decide (cdk wd a (kz (xs (i + 3))) i9)) (S := fun i9 => decide (cdp wd ct a (kz (xs (i + 3))) 0 i9)) (fun i9 hi9 => (decide_eq_true_iff).trans ((lw_cand0 (by exact kz_le (by decide) h9.2.1 h9.2.2) (hg i9 hi9) h9.1).trans (and_congr_right (fun _ => decide_eq_true_iff.symm))))).symm)
  refine lv_istore (lv' := [(6, .int rb8), (5, .int rv8), (0, .ref b), (1, .ref xo), (2, .ref mo), (3, .ref out), (4, .int (nI i))]) hx hb dL_law_1786 hl (by decide) rfl (fun ls hl => ?_)
  refine lv_aload_n hx hb dL_law_1788 rfl (lv_at hl 4 rfl) ?_
  refine vp_callSi (W.runV (As := []) (rest := []) ⟨hx, hb, hml, hown, hts⟩ (c_X10_thrown (l := l) (D := D) (mo := mo) (mw := mw) (mct := mct) (mp := mp) (mnm := mnm) (m1 := m1) (m2 := m2) (mt := mt) (mk := mk) (mr := mr) (ml := ml) (mq := mq) (th := t8) (n := n) (om := o2_12) (tm := q2_13) ) (cwV 0 hts gL_law_X10_thrown rfl rfl rfl (by decide +kernel) ⟨Nat.le_of_ble_eq_true rfl, Nat.le_of_ble_eq_true rfl⟩) ⟨qP_blind, (va_recv hK hP (ci := 9) (q0 := 16) rfl rfl), (qP_of (hP.sub (ws' := [(mo, .inr (9, [.int t8, .int (nI n), .ref mw, .ref mct, .ref mp, .ref mnm, .ref m1, .ref m2, .int o2_12, .int q2_13, .ref mt, .ref mk, .ref mr, .ref ml, .ref mq]))]) [16] rfl) (hK.sub (tys' := []) [] rfl) hNw)⟩ rfl rfl hl.1 rfl (lv_room (Nat.le_of_ble_eq_true rfl)) dL_law_1789 ⟨by show _ ≤ 601024; omega, by show _ ≤ 7293034; omega⟩) (fun r_19 hr_19 => ?_)
  have hr_19 := hr_19.symm
  subst hr_19
  refine lv_iload hx hb dL_law_1792 (lv_at hl 1 rfl) ?_
  refine lv_icmp_eq (tgt := 1799) hx hb dL_law_1794 (by decide) (fun c_1794 => ?_) (fun c_1794 => False.elim (by exact c_1794 hE.1))
  refine lv_iload hx hb dL_law_1799 (lv_at hl 1 rfl) ?_
  refine lv_if_ne (tgt := 1816) hx hb dL_law_1801 (by decide) (fun c_1801 => ?_) (fun c_1801 => ?_)
  · skip
    refine lv_goto (tgt := 1919) hx hb dL_law_1816 (by decide) ?_
    exact K _ _ _ _ _ ⟨n, m, wd, ct, pa, nm, dp, ki, ea, wa, ic, lf, pt, f, fk, fc2_6, z1, fN, z3, fr, z2, fs, t8, o2_12, q2_13, g1_14, g2_15, g3_16, u4, g5_17, g6_18, fo8, hI, hfe, hfk, hP, hD, hS⟩ (lv_sub hl [2, 3, 4, 5, 6] rfl) (by omega) (by omega)
  · skip
    refine lv_aload_n hx hb dL_law_1804 rfl (lv_at hl 5 rfl) ?_
    refine lv_iconst (v := nI 0) hx hb dL_law_1805 (by decide) ?_
    refine va_lald (D := D) hx hb hK hP 28 17 rfl rfl (vp_in_nI (n := 0) (N := 1) (by omega) (by decide)) dL_law_1806 ?_
    rw [nI_clamp (n := 0) (by omega)]
    refine lv_iload hx hb dL_law_1807 (lv_at hl 0 rfl) ?_
    refine lv_i2l hx hb dL_law_1809 rfl ?_
    refine W.lcmp hx hb dL_law_1810 ?_
    refine q_lr_eq (tgt := 1816) hx hb dL_law_1811 (by decide) (fun c_1811 => ?_) (fun c_1811 => False.elim (by exact c_1811 (hE.2 c_1801)))
    refine lv_goto (tgt := 1919) hx hb dL_law_1816 (by decide) ?_
    exact K _ _ _ _ _ ⟨n, m, wd, ct, pa, nm, dp, ki, ea, wa, ic, lf, pt, f, fk, fc2_6, z1, fN, z3, fr, z2, fs, t8, o2_12, q2_13, g1_14, g2_15, g3_16, u4, g5_17, g6_18, fo8, hI, hfe, hfk, hP, hD, hS⟩ (lv_sub hl [2, 3, 4, 5, 6] rfl) (by omega) (by omega)

set_option maxHeartbeats 4000000 in
set_option maxRecDepth 100000 in
/-- falseCandidates -/
theorem lw_c1819 {p : Program} {l : Launch} {e : Env} {s : State} {mi9 : MethodId} {belowM : List Frame} {methM : Method} {cM : Code} {Q : State → Prop} {D : va_G} {A : Nat → Prop} {b L i : Nat} {xs : Nat → Int32} {xo gg gr ce tr sh ar ti n1 l1 s2 a2 s3 a3 n2 l2 mo mw mct mp mnm m1 m2 mt mk mr ml mq out : Nat} {cS cS2 cG cJ1 cS3 cJ2 k1 k2 k3 k4 k5 k6 k7 k8 k9c k10 k11 cO : ClassId} {H : Heap} {locs : List Loc} {ls : Array Slot} {cells slots : Nat} (hE : LWE p l s mi9 cM D A b L xs [(cG, .int), (cS, .object "FuzzyFens$Entry"), (cJ1, .long), (cS2, .object "FuzzyFens$Entry"), (cS3, .object "FuzzyFens$Entry"), (cJ2, .long), (k1, .long), (k2, .int), (k3, .int), (k4, .int), (k5, .int), (k6, .int), (k7, .int), (k8, .int), (k9c, .long), (k10, .long), (k11, .long), (cO, .long)]) (hi : i + 5 ≤ L) (hW : LWI D s A xo gg gr ce tr sh ar ti n1 l1 s2 a2 s3 a3 n2 l2 mo mw mct mp mnm m1 m2 mt mk mr ml mq out cS cS2 cG cJ1 cS3 cJ2 k1 k2 k3 k4 k5 k6 k7 k8 k9c k10 k11 cO H locs) (hl : lv_has ls 8 [(0, .ref b), (1, .ref xo), (2, .ref mo), (3, .ref out), (4, .int (nI i))]) (hc9 : cells + 8 ≤ 601024) (hs9 : slots + 64 ≤ 7293034) (K : LWK p l e s mi9 belowM methM cM Q D A b i xo gg gr ce tr sh ar ti n1 l1 s2 a2 s3 a3 n2 l2 mo mw mct mp mnm m1 m2 mt mk mr ml mq out cS cS2 cG cJ1 cS3 cJ2 k1 k2 k3 k4 k5 k6 k7 k8 k9c k10 k11 cO cells slots) : W p l e room_1 s mi9 #[Value.ref b] belowM methM cM H locs cells slots Q (F0 mi9 1819 ls []) := by
  obtain ⟨hx, hb, hml, hown, hts, hX, hbl, hbA, hA, hK, hNw, hZ, hXt, hst, hL⟩ := hE
  obtain ⟨n, m, wd, ct, pa, nm, dp, ki, ea, wa, ic, lf, pt, f, fk, fc, z1, fN, z3, fr, z2, fs, th, om, tm, u1, u2, u3, u4, u5, u6, fo, hI, hfe, hfk, hP, hD, hS⟩ := hW
  have hI0 := hI
  obtain ⟨hn40, hg, hwi, hct, hpn, hun, hnm, hnz, hdp, hKN, hSR⟩ := hI0
  have hmn := kn_le hKN hSR
  have hm : m ≤ 40 := Nat.le_trans hmn hn40
  have hki : ∀ j, j < m → ki j < n := fun j h => (hKN.1 j h).1
  have hcb : ∀ k, k < n → ct k < 2 ^ 31 := fun k h => by have := hct k h; omega
  have hnb : ∀ k, k < n → nm k < 2 ^ 31 := fun k h => by have := hnm k h; omega
  have hmz : ∀ i, i < n → ct i = 0 → m < n := fun i h h0 => kn_lt hKN hSR h h0
  have hkinj := srt_inj hSR
  have hkn := hKN.2
  have heai := q_poolinj hD
  have hR0 : va_P D vwCl [] s.heap := q_Pof (fun _ h => absurd h List.not_mem_nil)
  have hR := hR0
  have hna : ∀ q ∈ ([] : va_W), ¬ A q.1 := fun q h => absurd h List.not_mem_nil
  have hnR : (([] : va_W).map (·.1)).Nodup := List.nodup_nil
  refine lv_aload_n hx hb dL_law_1819 rfl (lv_at hl 1 rfl) ?_
  refine lv_aload_n hx hb dL_law_1820 rfl (lv_at hl 0 rfl) ?_
  refine lv_iload hx hb dL_law_1821 (lv_at hl 4 rfl) ?_
  refine lv_iconst (v := nI 1) hx hb dL_law_1823 (by decide) ?_
  refine q_iadd (d := i + 1) hx hb dL_law_1824 (by omega) ?_
  refine va_sld hx hb hX hbl hbA hS (vp_in_nI (n := i + 1) (N := L) (by omega) (by omega)) dL_law_1825 ?_
  rw [nI_clamp (n := i + 1) (by omega)]
  refine lv_i2l hx hb dL_law_1826 rfl ?_
  refine lv_bipush (v := nI 32) hx hb dL_law_1827 (by decide) ?_
  refine lv_lshl hx hb dL_law_1829 rfl ?_
  refine lv_aload_n hx hb dL_law_1830 rfl (lv_at hl 0 rfl) ?_
  refine lv_iload hx hb dL_law_1831 (lv_at hl 4 rfl) ?_
  refine lv_iconst (v := nI 2) hx hb dL_law_1833 (by decide) ?_
  refine q_iadd (d := i + 2) hx hb dL_law_1834 (by omega) ?_
  refine va_sld hx hb hX hbl hbA hS (vp_in_nI (n := i + 2) (N := L) (by omega) (by omega)) dL_law_1835 ?_
  rw [nI_clamp (n := i + 2) (by omega)]
  refine lv_i2l hx hb dL_law_1836 rfl ?_
  refine lv_ldc2 (v := 4294967295) hx hb hown (hts (.constantLong RL 80 (4294967295)) (List.mem_of_getElem? (i := 7) rfl)) dL_law_1837 ?_
  refine q_cvl (show (4294967295 : Int64) = lN 4294967295 by decide) ?_
  refine lv_land hx hb dL_law_1840 ?_
  refine lv_lor hx hb dL_law_1841 ?_
  obtain ⟨a, ha, hqa⟩ := q_lN ((((xs (i + 1)).toInt64) <<< ((nI 32).toInt64 &&& 63)) ||| (((xs (i + 2)).toInt64) &&& (lN 4294967295)))
  refine q_cvl hqa ?_
  refine lv_aload_n hx hb dL_law_1842 rfl (lv_at hl 0 rfl) ?_
  refine lv_iload hx hb dL_law_1843 (lv_at hl 4 rfl) ?_
  refine lv_iconst (v := nI 3) hx hb dL_law_1845 (by decide) ?_
  refine q_iadd (d := i + 3) hx hb dL_law_1846 (by omega) ?_
  refine va_sld hx hb hX hbl hbA hS (vp_in_nI (n := i + 3) (N := L) (by omega) (by omega)) dL_law_1847 ?_
  rw [nI_clamp (n := i + 3) (by omega)]
  refine lv_aload_n hx hb dL_law_1848 rfl (lv_at hl 3 rfl) ?_
  have hF := va_free (wc := [(out, .inl (cO, 1, .inr (.inl fo))), (ce, .inl (cG, 121, .inl fc))]) hD hS hA [28, 3] rfl
  refine va_calli (vx_runSW (As := [.ref xo, .long (lN a), .int (xs (i + 3)), .ref out]) (rest := []) ⟨hx, hb, hml, hown, hts⟩ (c_L_falseCandidates (l := l) (D := D) (xo := xo) (gg := gg) (gr := gr) (ce := ce) (tr := tr) (sh := sh) (ar := ar) (ti := ti) (n1 := n1) (l1 := l1) (s2 := s2) (a2 := a2) (s3 := s3) (a3 := a3) (n2 := n2) (l2 := l2) (cS2 := cS2) (fk := fk) (m := m) (ki := ki) (ea := ea) (wa := wa) (pf := (fun k => (pa k).map ea)) (cn := nm) (dp := dp) (oc := ct) (ic := ic) (lf := lf) (pt := pt) (wd := wd) (n := n) (cG := cG) (fc := fc) (a := a) (x9 := xs (i + 3)) (out := out) (cO := cO) (fo := fo) (sz := H.size) (hnd := (q_ndt (q_ndsw (q_ndg (l1 := [xo, gg, gr, ce, tr, sh, ar, ti, n1, l1, s2, a2, s3, a3, n2, l2, mo, mw, mct, mp, mnm, m1, m2, mt, mk, mr, ml, mq, out] ++ (rg ea n ++ rg wa n)) (l2 := []) hD hnR hna (by rw [List.map_append, List.map_append, EW_fst, WW_fst]; rfl) rfl)) [28, 3, 0, 1, 2, 10, 11] rfl rfl)) (hst := hst) (ha := by omega) (hm := hm) (hf := hfk) (hki := hki) (hg := hg)) (vx_cwSW 4 hts gL_law_L_falseCandidates rfl rfl rfl (by decide +kernel) ⟨Nat.le_of_ble_eq_true rfl, Nat.le_of_ble_eq_true rfl⟩) ⟨qWx_blind, (qWx_of (va_P.app (hP.sub (ws' := [(xo, .inr (8, [.ref gg, .ref tr, .ref ti, .ref s2, .ref s3, .ref n2])), (gg, .inr (1, [.ref gr])), (gr, .inr (2, [.ref ce])), (s2, .inr (4, [.ref a2, .int (nI m)])), (a2, .inl (cS2, 40, .inr (.inr (.inr (.inr fk)))))]) [0, 1, 2, 10, 11] rfl) (q_right hP)) (hP.sub (ws' := [(out, .inl (cO, 1, .inr (.inl fo))), (ce, .inl (cG, 121, .inl fc))]) [28, 3] rfl) (hK.sub (tys' := [(cO, .long), (cG, .int), (cS2, .object "FuzzyFens$Entry")]) [17, 0, 3] rfl) hNw (qZ_at hZ hS (fun q h => hF q h)) hXt)⟩ rfl rfl hl.1 rfl (lv_room (Nat.le_of_ble_eq_true rfl)) dL_law_1849 ⟨by show _ ≤ 601024; omega, by show _ ≤ 7293034; omega⟩) hS (fun q _ h => hF q h) hF (fun rv8 u_5 t_4 H_2 locs_3 ht hvm hrv8 hB hz1 hk1 hS => ?_)
  obtain ⟨fc2_6, fo8⟩ := u_5
  dsimp only at hrv8 hB
  replace hB : va_P D vwCl [(out, .inl (cO, 1, .inr (.inl fo8))), (ce, .inl (cG, 121, .inl fc2_6))] H_2 := by rw [← ht]; exact hB
  obtain ⟨hP, hD⟩ := q_join (wc := [(out, .inl (cO, 1, .inr (.inl fo))), (ce, .inl (cG, 121, .inl fc))]) (w1 := [(out, .inl (cO, 1, .inr (.inl fo8))), (ce, .inl (cG, 121, .inl fc2_6))]) (ws' := [(xo, .inr (8, [.ref gg, .ref tr, .ref ti, .ref s2, .ref s3, .ref n2])), (gg, .inr (1, [.ref gr])), (gr, .inr (2, [.ref ce])), (ce, .inl (cG, 121, .inl fc2_6)), (tr, .inr (5, [.ref sh])), (sh, .inr (4, [.ref ar, .int (nI n)])), (ar, .inl (cS, 40, .inr (.inr (.inr (.inr f))))), (ti, .inr (6, [.ref n1])), (n1, .inr (3, [.ref l1, .int z1])), (l1, .inl (cJ1, 401, .inr (.inl fN))), (s2, .inr (4, [.ref a2, .int (nI m)])), (a2, .inl (cS2, 40, .inr (.inr (.inr (.inr fk))))), (s3, .inr (4, [.ref a3, .int z3])), (a3, .inl (cS3, 40, .inr (.inr (.inr (.inr fr))))), (n2, .inr (3, [.ref l2, .int z2])), (l2, .inl (cJ2, 56, .inr (.inl fs))), (mo, .inr (9, [.int th, .int (nI n), .ref mw, .ref mct, .ref mp, .ref mnm, .ref m1, .ref m2, .int om, .int tm, .ref mt, .ref mk, .ref mr, .ref ml, .ref mq])), (mw, .inl (k1, 40, .inr (.inl (fun k9 => lN (wd k9))))), (mct, .inl (k2, 40, .inl (fun k9 => nI (ct k9)))), (mp, .inl (k3, 40, .inl (fun k9 => pin (pa k9)))), (mnm, .inl (k4, 40, .inl (fun k9 => nI (nm k9)))), (m1, .inl (k5, 11, .inl u1)), (m2, .inl (k6, 11, .inl u2)), (mt, .inl (k7, 121, .inl u3)), (mk, .inl (k8, 27, .inl (fun k9 => nI (kyf k9)))), (mr, .inl (k9c, 401, .inr (.inl u4))), (ml, .inl (k10, 64, .inr (.inl u5))), (mq, .inl (k11, 64, .inr (.inl u6))), (out, .inl (cO, 1, .inr (.inl fo8)))] ++ (EW ea wa (fun k => (pa k).map ea) nm dp ct ic lf pt n ++ WW wa wd n)) [28, 3] hP hD rfl rfl hk1 hB rfl
  have hR := q_ro hR0 hna hS
  have hF8 := hrv8
  refine lv_istore (lv' := [(5, .int rv8), (0, .ref b), (1, .ref xo), (2, .ref mo), (3, .ref out), (4, .int (nI i))]) hx hb dL_law_1852 hl (by decide) rfl (fun ls hl => ?_)
  refine lv_aload_n hx hb dL_law_1854 rfl (lv_at hl 3 rfl) ?_
  refine lv_aload_n hx hb dL_law_1855 rfl (lv_at hl 1 rfl) ?_
  refine lv_iload hx hb dL_law_1856 (lv_at hl 5 rfl) ?_
  refine lv_iconst (v := nI 1) hx hb dL_law_1858 (by decide) ?_
  refine q_iadd (d := i + 1) hx hb dL_law_1859 (by omega) ?_
  refine va_sld hx hb hX hbl hbA hS (vp_in_nI (n := i + 1) (N := L) (by omega) (by omega)) dL_law_1860 ?_
  rw [nI_clamp (n := i + 1) (by omega)]
  refine lv_i2l hx hb dL_law_1861 rfl ?_
  refine lv_bipush (v := nI 32) hx hb dL_law_1862 (by decide) ?_
  refine lv_lshl hx hb dL_law_1864 rfl ?_
  refine lv_aload_n hx hb dL_law_1865 rfl (lv_at hl 1 rfl) ?_
  refine lv_iload hx hb dL_law_1866 (lv_at hl 5 rfl) ?_
  refine lv_iconst (v := nI 2) hx hb dL_law_1868 (by decide) ?_
  refine q_iadd (d := i + 2) hx hb dL_law_1869 (by omega) ?_
  refine va_sld hx hb hX hbl hbA hS (vp_in_nI (n := i + 2) (N := L) (by omega) (by omega)) dL_law_1870 ?_
  rw [nI_clamp (n := i + 2) (by omega)]
  refine lv_i2l hx hb dL_law_1871 rfl ?_
  refine lv_ldc2 (v := 4294967295) hx hb hown (hts (.constantLong RL 80 (4294967295)) (List.mem_of_getElem? (i := 7) rfl)) dL_law_1872 ?_
  refine q_cvl (show (4294967295 : Int64) = lN 4294967295 by decide) ?_
  refine lv_land hx hb dL_law_1875 ?_
  refine lv_lor hx hb dL_law_1876 ?_
  refine q_cvl hqa ?_
  refine lv_aload_n hx hb dL_law_1877 rfl (lv_at hl 1 rfl) ?_
  refine lv_iload hx hb dL_law_1878 (lv_at hl 5 rfl) ?_
  refine lv_iconst (v := nI 3) hx hb dL_law_1880 (by decide) ?_
  refine q_iadd (d := i + 3) hx hb dL_law_1881 (by omega) ?_
  refine va_sld hx hb hX hbl hbA hS (vp_in_nI (n := i + 3) (N := L) (by omega) (by omega)) dL_law_1882 ?_
  rw [nI_clamp (n := i + 3) (by omega)]
  have hF := va_free (wc := [(mo, .inr (9, [.int th, .int (nI n), .ref mw, .ref mct, .ref mp, .ref mnm, .ref m1, .ref m2, .int om, .int tm, .ref mt, .ref mk, .ref mr, .ref ml, .ref mq])), (m1, .inl (k5, 11, .inl u1)), (m2, .inl (k6, 11, .inl u2)), (mt, .inl (k7, 121, .inl u3)), (ml, .inl (k10, 64, .inr (.inl u5))), (mq, .inl (k11, 64, .inr (.inl u6)))]) hD hS hA [16, 21, 22, 23, 26, 27] rfl
  refine va_calli (va_runV (As := [.long (lN a), .int (xs (i + 3))]) (rest := []) ⟨hx, hb, hml, hown, hts⟩ (c_X10_falseCandidates (l := l) (D := D) (mo := mo) (mw := mw) (mct := mct) (mp := mp) (mnm := mnm) (m1 := m1) (m2 := m2) (mt := mt) (mk := mk) (mr := mr) (ml := ml) (mq := mq) (k1 := k1) (k2 := k2) (k5 := k5) (k6 := k6) (k7 := k7) (k10 := k10) (k11 := k11) (th := th) (n := n) (om := om) (tm := tm) (f1 := u1) (f2 := u2) (ft := u3) (fl := u5) (fq := u6) (wd := wd) (ct := ct) (a := a) (x9 := xs (i + 3)) (sz := H_2.size) (hnd := (q_nds (q_ndl (q_ndsw (q_ndg (l1 := [xo, gg, gr, ce, tr, sh, ar, ti, n1, l1, s2, a2, s3, a3, n2, l2, mo, mw, mct, mp, mnm, m1, m2, mt, mk, mr, ml, mq, out] ++ (rg ea n ++ rg wa n)) (l2 := []) hD hnR hna (by rw [List.map_append, List.map_append, EW_fst, WW_fst]; rfl) rfl))) [16, 21, 22, 23, 26, 27, 17, 18] rfl rfl)) (ha := by omega) (hn40 := hn40) (hgw := hg) (hcb := hcb)) (cwV 2 hts gL_law_X10_falseCandidates rfl rfl rfl (by decide +kernel) ⟨Nat.le_of_ble_eq_true rfl, Nat.le_of_ble_eq_true rfl⟩) ⟨qW_blind, (va_recv hK hP (ci := 9) (q0 := 16) rfl rfl), (qW_of (hP.sub (ws' := [(mw, .inl (k1, 40, .inr (.inl (fun k9 => lN (wd k9))))), (mct, .inl (k2, 40, .inl (fun k9 => nI (ct k9))))]) [17, 18] rfl) (hP.sub (ws' := [(mo, .inr (9, [.int th, .int (nI n), .ref mw, .ref mct, .ref mp, .ref mnm, .ref m1, .ref m2, .int om, .int tm, .ref mt, .ref mk, .ref mr, .ref ml, .ref mq])), (m1, .inl (k5, 11, .inl u1)), (m2, .inl (k6, 11, .inl u2)), (mt, .inl (k7, 121, .inl u3)), (ml, .inl (k10, 64, .inr (.inl u5))), (mq, .inl (k11, 64, .inr (.inl u6)))]) [16, 21, 22, 23, 26, 27] rfl) (hK.sub (tys' := [(k5, .int), (k6, .int), (k7, .int), (k10, .long), (k11, .long), (k1, .long), (k2, .int)]) [10, 11, 12, 15, 16, 6, 7] rfl) hNw)⟩ rfl rfl hl.1 rfl (lv_room (Nat.le_of_ble_eq_true rfl)) dL_law_1883 ⟨by show _ ≤ 601024; omega, by show _ ≤ 7293034; omega⟩) hS (fun q _ h => hF q h) hF (fun rb8 u_11 t_10 H_8 locs_9 ht hvm hrb8 hB hz1 hk1 hS => ?_)
  obtain ⟨t8, o2_12, q2_13, g1_14, g2_15, g3_16, g5_17, g6_18⟩ := u_11
  dsimp only at hrb8 hB
  replace hB : va_P D vwCl [(mo, .inr (9, [.int t8, .int (nI n), .ref mw, .ref mct, .ref mp, .ref mnm, .ref m1, .ref m2, .int o2_12, .int q2_13, .ref mt, .ref mk, .ref mr, .ref ml, .ref mq])), (m1, .inl (k5, 11, .inl g1_14)), (m2, .inl (k6, 11, .inl g2_15)), (mt, .inl (k7, 121, .inl g3_16)), (ml, .inl (k10, 64, .inr (.inl g5_17))), (mq, .inl (k11, 64, .inr (.inl g6_18)))] H_8 := by rw [← ht]; exact hB
  obtain ⟨hP, hD⟩ := q_join (wc := [(mo, .inr (9, [.int th, .int (nI n), .ref mw, .ref mct, .ref mp, .ref mnm, .ref m1, .ref m2, .int om, .int tm, .ref mt, .ref mk, .ref mr, .ref ml, .ref mq])), (m1, .inl (k5, 11, .inl u1)), (m2, .inl (k6, 11, .inl u2)), (mt, .inl (k7, 121, .inl u3)), (ml, .inl (k10, 64, .inr (.inl u5))), (mq, .inl (k11, 64, .inr (.inl u6)))]) (w1 := [(mo, .inr (9, [.int t8, .int (nI n), .ref mw, .ref mct, .ref mp, .ref mnm, .ref m1, .ref m2, .int o2_12, .int q2_13, .ref mt, .ref mk, .ref mr, .ref ml, .ref mq])), (m1, .inl (k5, 11, .inl g1_14)), (m2, .inl (k6, 11, .inl g2_15)), (mt, .inl (k7, 121, .inl g3_16)), (ml, .inl (k10, 64, .inr (.inl g5_17))), (mq, .inl (k11, 64, .inr (.inl g6_18)))]) (ws' := [(xo, .inr (8, [.ref gg, .ref tr, .ref ti, .ref s2, .ref s3, .ref n2])), (gg, .inr (1, [.ref gr])), (gr, .inr (2, [.ref ce])), (ce, .inl (cG, 121, .inl fc2_6)), (tr, .inr (5, [.ref sh])), (sh, .inr (4, [.ref ar, .int (nI n)])), (ar, .inl (cS, 40, .inr (.inr (.inr (.inr f))))), (ti, .inr (6, [.ref n1])), (n1, .inr (3, [.ref l1, .int z1])), (l1, .inl (cJ1, 401, .inr (.inl fN))), (s2, .inr (4, [.ref a2, .int (nI m)])), (a2, .inl (cS2, 40, .inr (.inr (.inr (.inr fk))))), (s3, .inr (4, [.ref a3, .int z3])), (a3, .inl (cS3, 40, .inr (.inr (.inr (.inr fr))))), (n2, .inr (3, [.ref l2, .int z2])), (l2, .inl (cJ2, 56, .inr (.inl fs))), (mo, .inr (9, [.int t8, .int (nI n), .ref mw, .ref mct, .ref mp, .ref mnm, .ref m1, .ref m2, .int o2_12, .int q2_13, .ref mt, .ref mk, .ref mr, .ref ml, .ref mq])), (mw, .inl (k1, 40, .inr (.inl (fun k9 => lN (wd k9))))), (mct, .inl (k2, 40, .inl (fun k9 => nI (ct k9)))), (mp, .inl (k3, 40, .inl (fun k9 => pin (pa k9)))), (mnm, .inl (k4, 40, .inl (fun k9 => nI (nm k9)))), (m1, .inl (k5, 11, .inl g1_14)), (m2, .inl (k6, 11, .inl g2_15)), (mt, .inl (k7, 121, .inl g3_16)), (mk, .inl (k8, 27, .inl (fun k9 => nI (kyf k9)))), (mr, .inl (k9c, 401, .inr (.inl u4))), (ml, .inl (k10, 64, .inr (.inl g5_17))), (mq, .inl (k11, 64, .inr (.inl g6_18))), (out, .inl (cO, 1, .inr (.inl fo8)))] ++ (EW ea wa (fun k => (pa k).map ea) nm dp ct ic lf pt n ++ WW wa wd n)) [16, 21, 22, 23, 26, 27] hP hD rfl rfl hk1 hB rfl
  have hR := q_ro hR0 hna hS
  obtain ⟨g80, g81⟩ := hrb8
  have hE : t8 = rv8 ∧ (rv8 = 0 → fo8 0 = (rb8).toInt64) := q_hv1 hF8 g80 (fun h9 => by rw [g81 h9]; exact congrArg (fun z9 => (nI z9).toInt64) (cnt_sub hKN hSR (Q := fun i9 => decide (cdk wd a (kz (xs (i + 3))) i9 ∧ ¬ dst wd a i9 ≤ (kz (xs (i + 3))))) (S := fun i9 => decide (cdp wd ct a (kz (xs (i + 3))) 1 i9)) (fun i9 hi9 => (decide_eq_true_iff).trans ((lw_cand1 (by exact kz_le (by decide) h9.2.1 h9.2.2) (hg i9 hi9) h9.1).trans (and_congr_right (fun _ => decide_eq_true_iff.symm))))).symm)
  refine lv_istore (lv' := [(6, .int rb8), (5, .int rv8), (0, .ref b), (1, .ref xo), (2, .ref mo), (3, .ref out), (4, .int (nI i))]) hx hb dL_law_1886 hl (by decide) rfl (fun ls hl => ?_)
  refine lv_aload_n hx hb dL_law_1888 rfl (lv_at hl 4 rfl) ?_
  refine vp_callSi (W.runV (As := []) (rest := []) ⟨hx, hb, hml, hown, hts⟩ (c_X10_thrown (l := l) (D := D) (mo := mo) (mw := mw) (mct := mct) (mp := mp) (mnm := mnm) (m1 := m1) (m2 := m2) (mt := mt) (mk := mk) (mr := mr) (ml := ml) (mq := mq) (th := t8) (n := n) (om := o2_12) (tm := q2_13) ) (cwV 0 hts gL_law_X10_thrown rfl rfl rfl (by decide +kernel) ⟨Nat.le_of_ble_eq_true rfl, Nat.le_of_ble_eq_true rfl⟩) ⟨qP_blind, (va_recv hK hP (ci := 9) (q0 := 16) rfl rfl), (qP_of (hP.sub (ws' := [(mo, .inr (9, [.int t8, .int (nI n), .ref mw, .ref mct, .ref mp, .ref mnm, .ref m1, .ref m2, .int o2_12, .int q2_13, .ref mt, .ref mk, .ref mr, .ref ml, .ref mq]))]) [16] rfl) (hK.sub (tys' := []) [] rfl) hNw)⟩ rfl rfl hl.1 rfl (lv_room (Nat.le_of_ble_eq_true rfl)) dL_law_1889 ⟨by show _ ≤ 601024; omega, by show _ ≤ 7293034; omega⟩) (fun r_19 hr_19 => ?_)
  have hr_19 := hr_19.symm
  subst hr_19
  refine lv_iload hx hb dL_law_1892 (lv_at hl 1 rfl) ?_
  refine lv_icmp_eq (tgt := 1899) hx hb dL_law_1894 (by decide) (fun c_1894 => ?_) (fun c_1894 => False.elim (by exact c_1894 hE.1))
  refine lv_iload hx hb dL_law_1899 (lv_at hl 1 rfl) ?_
  refine lv_if_ne (tgt := 1916) hx hb dL_law_1901 (by decide) (fun c_1901 => ?_) (fun c_1901 => ?_)
  · skip
    refine lv_goto (tgt := 1919) hx hb dL_law_1916 (by decide) ?_
    exact K _ _ _ _ _ ⟨n, m, wd, ct, pa, nm, dp, ki, ea, wa, ic, lf, pt, f, fk, fc2_6, z1, fN, z3, fr, z2, fs, t8, o2_12, q2_13, g1_14, g2_15, g3_16, u4, g5_17, g6_18, fo8, hI, hfe, hfk, hP, hD, hS⟩ (lv_sub hl [2, 3, 4, 5, 6] rfl) (by omega) (by omega)
  · skip
    refine lv_aload_n hx hb dL_law_1904 rfl (lv_at hl 5 rfl) ?_
    refine lv_iconst (v := nI 0) hx hb dL_law_1905 (by decide) ?_
    refine va_lald (D := D) hx hb hK hP 28 17 rfl rfl (vp_in_nI (n := 0) (N := 1) (by omega) (by decide)) dL_law_1906 ?_
    rw [nI_clamp (n := 0) (by omega)]
    refine lv_iload hx hb dL_law_1907 (lv_at hl 0 rfl) ?_
    refine lv_i2l hx hb dL_law_1909 rfl ?_
    refine W.lcmp hx hb dL_law_1910 ?_
    refine q_lr_eq (tgt := 1916) hx hb dL_law_1911 (by decide) (fun c_1911 => ?_) (fun c_1911 => False.elim (by exact c_1911 (hE.2 c_1901)))
    refine lv_goto (tgt := 1919) hx hb dL_law_1916 (by decide) ?_
    exact K _ _ _ _ _ ⟨n, m, wd, ct, pa, nm, dp, ki, ea, wa, ic, lf, pt, f, fk, fc2_6, z1, fN, z3, fr, z2, fs, t8, o2_12, q2_13, g1_14, g2_15, g3_16, u4, g5_17, g6_18, fo8, hI, hfe, hfk, hP, hD, hS⟩ (lv_sub hl [2, 3, 4, 5, 6] rfl) (by omega) (by omega)
