/-! the law over its two objects -/
theorem q_cutC {p : Program} {l : Launch} {e : Env} {R : Room} {s : State} {m : MethodId} {args : Array Value} {below : List Frame} {meth : Method} {c : Code} {H : Heap} {locs : List Loc} {cells slots : Nat} {Q : State → Prop} {g : JFrame} {σ : Type} (pc2 kc ks : Nat) (I : σ → Heap → List Loc → Array Slot → List Value → Prop)
    (k : ∀ (x : σ) (H : Heap) (locs : List Loc) (ls : Array Slot) (st : List Value), I x H locs ls st → W p l e R s m args below meth c H locs kc ks Q (F0 m pc2 ls st))
    (h : (∀ (x : σ) (H : Heap) (locs : List Loc) (ls : Array Slot) (st : List Value) (c2 s2 : Nat), I x H locs ls st → c2 ≤ kc → s2 ≤ ks → W p l e R s m args below meth c H locs c2 s2 Q (F0 m pc2 ls st)) → W p l e R s m args below meth c H locs cells slots Q g) : W p l e R s m args below meth c H locs cells slots Q g :=
  h (fun x H locs ls st c2 s2 hI h1 h2 => W.widen (k := kc) (n := ks) h1 h2 (k x H locs ls st hI))
/-- both objects' cells, each with its state -/
def LWS (D : va_G) (s : State) (A : Nat → Prop) (xo gg gr ce tr sh ar ti n1 l1 s2 a2 s3 a3 n2 l2 : Nat) (cG cS cJ1 cS2 cS3 cJ2 : ClassId) (xo7 gg7 gr7 ce7 tr7 sh7 ar7 ti7 n17 l17 s27 a27 s37 a37 n27 l27 : Nat) (cG7 cS7 cJ17 cS27 cS37 cJ27 : ClassId) (no mo : Nat) (wdo cto : Nat → Nat) (pao : Nat → Option Nat) (nmo dpo kio : Nat → Nat) (np mp : Nat) (wdp ctp : Nat → Nat) (pap : Nat → Option Nat) (nmp dpp kip : Nat → Nat) (H : Heap) (locs : List Loc) : Prop :=
  ∃ X Y : va_W, OBJ xo gg gr ce tr sh ar ti n1 l1 s2 a2 s3 a3 n2 l2 cG cS cJ1 cS2 cS3 cJ2 no mo wdo cto pao nmo dpo kio X ∧ OBJ xo7 gg7 gr7 ce7 tr7 sh7 ar7 ti7 n17 l17 s27 a27 s37 a37 n27 l27 cG7 cS7 cJ17 cS27 cS37 cJ27 np mp wdp ctp pap nmp dpp kip Y ∧ va_P D vwCl (X ++ Y) H ∧ va_D A (X ++ Y) ∧ va_S A s.heap H locs
/-- what holds all along -/
def LWE (p : Program) (l : Launch) (s : State) (mi9 : MethodId) (cM : Code) (D : va_G) (A : Nat → Prop) (b L : Nat) (xs : Nat → Int32) (tys : List (ClassId × FieldType)) : Prop :=
  p.tables.exec = Jvm.exec ∧ cM.code = cL_law ∧ cM.maxLocals = 13 ∧ s.vm.findClass RL = some mi9.cls ∧ (∀ w ∈ wsL_law, w.before #[Value.ref b] s = true) ∧ va_X b L xs s s.heap ∧ b < s.heap.size ∧ ¬ A b ∧ (∀ q : Nat, s.heap.size ≤ q → A q) ∧ va_K D vwCl tys s ∧ qN s ∧ qZ A s s.heap ∧ qT s ∧ l.stackTraces = false ∧ L ≤ 260
theorem q_R0 {D : va_G} {H : Heap} : va_P D vwCl [] H := q_Pof (fun _ h => absurd h List.not_mem_nil)
theorem lws_S {D : va_G} {s : State} {A : Nat → Prop} {xo gg gr ce tr sh ar ti n1 l1 s2 a2 s3 a3 n2 l2 : Nat} {cG cS cJ1 cS2 cS3 cJ2 : ClassId} {xo7 gg7 gr7 ce7 tr7 sh7 ar7 ti7 n17 l17 s27 a27 s37 a37 n27 l27 : Nat} {cG7 cS7 cJ17 cS27 cS37 cJ27 : ClassId} {no mo : Nat} {wdo cto : Nat → Nat} {pao : Nat → Option Nat} {nmo dpo kio : Nat → Nat} {np mp : Nat} {wdp ctp : Nat → Nat} {pap : Nat → Option Nat} {nmp dpp kip : Nat → Nat} {H : Heap} {locs : List Loc} (h : LWS D s A xo gg gr ce tr sh ar ti n1 l1 s2 a2 s3 a3 n2 l2 cG cS cJ1 cS2 cS3 cJ2 xo7 gg7 gr7 ce7 tr7 sh7 ar7 ti7 n17 l17 s27 a27 s37 a37 n27 l27 cG7 cS7 cJ17 cS27 cS37 cJ27 no mo wdo cto pao nmo dpo kio np mp wdp ctp pap nmp dpp kip H locs) : va_S A s.heap H locs := by
  obtain ⟨X, Y, _, _, _, _, hS⟩ := h; exact hS
/-- the world of both, turned round -/
theorem lws_sw {D : va_G} {s : State} {A : Nat → Prop} {xo gg gr ce tr sh ar ti n1 l1 s2 a2 s3 a3 n2 l2 : Nat} {cG cS cJ1 cS2 cS3 cJ2 : ClassId} {xo7 gg7 gr7 ce7 tr7 sh7 ar7 ti7 n17 l17 s27 a27 s37 a37 n27 l27 : Nat} {cG7 cS7 cJ17 cS27 cS37 cJ27 : ClassId} {no mo : Nat} {wdo cto : Nat → Nat} {pao : Nat → Option Nat} {nmo dpo kio : Nat → Nat} {np mp : Nat} {wdp ctp : Nat → Nat} {pap : Nat → Option Nat} {nmp dpp kip : Nat → Nat} {H : Heap} {locs : List Loc} (h : LWS D s A xo gg gr ce tr sh ar ti n1 l1 s2 a2 s3 a3 n2 l2 cG cS cJ1 cS2 cS3 cJ2 xo7 gg7 gr7 ce7 tr7 sh7 ar7 ti7 n17 l17 s27 a27 s37 a37 n27 l27 cG7 cS7 cJ17 cS27 cS37 cJ27 no mo wdo cto pao nmo dpo kio np mp wdp ctp pap nmp dpp kip H locs) : LWS D s A xo7 gg7 gr7 ce7 tr7 sh7 ar7 ti7 n17 l17 s27 a27 s37 a37 n27 l27 cG7 cS7 cJ17 cS27 cS37 cJ27 xo gg gr ce tr sh ar ti n1 l1 s2 a2 s3 a3 n2 l2 cG cS cJ1 cS2 cS3 cJ2 np mp wdp ctp pap nmp dpp kip no mo wdo cto pao nmo dpo kio H locs := by
  obtain ⟨X, Y, h1, h2, hP, hD, hS⟩ := h
  exact ⟨Y, X, h2, h1, q_swP hP, q_swD hD, hS⟩

theorem q_four {a b t u : List Nat} : List.Perm ((a ++ t) ++ (b ++ u)) ((a ++ b) ++ (t ++ u)) := by
  have e1 : (a ++ t) ++ (b ++ u) = a ++ (t ++ (b ++ u)) := List.append_assoc a t (b ++ u)
  have e2 : (a ++ b) ++ (t ++ u) = a ++ (b ++ (t ++ u)) := List.append_assoc a b (t ++ u)
  rw [e1, e2]
  refine List.Perm.append_left a ?_
  rw [← List.append_assoc, ← List.append_assoc]
  exact List.Perm.append_right u List.perm_append_comm

set_option maxRecDepth 100000 in
theorem lw_words77 {p : Program} {l : Launch} {e : Env} {s : State} {mi9 : MethodId} {belowM : List Frame} {methM : Method} {cM : Code} {Q : State → Prop} {D : va_G} {A : Nat → Prop} {b L : Nat} {xs : Nat → Int32} {xo gg gr ce tr sh ar ti n1 l1 s2 a2 s3 a3 n2 l2 : Nat} {cG cS cJ1 cS2 cS3 cJ2 : ClassId} {xo7 gg7 gr7 ce7 tr7 sh7 ar7 ti7 n17 l17 s27 a27 s37 a37 n27 l27 : Nat} {cG7 cS7 cJ17 cS27 cS37 cJ27 : ClassId} {no mo : Nat} {wdo cto : Nat → Nat} {pao : Nat → Option Nat} {nmo dpo kio : Nat → Nat} {np mp : Nat} {wdp ctp : Nat → Nat} {pap : Nat → Option Nat} {nmp dpp kip : Nat → Nat} {H : Heap} {locs : List Loc} {ls : Array Slot} {cells slots : Nat} {tys : List (ClassId × FieldType)} (hE : LWE p l s mi9 cM D A b L xs tys) (hKo : va_K D vwCl [(cG, .int), (cS, .object "FuzzyFens$Entry"), (cJ1, .long), (cS2, .object "FuzzyFens$Entry"), (cS3, .object "FuzzyFens$Entry"), (cJ2, .long)] s) (hW : LWS D s A xo gg gr ce tr sh ar ti n1 l1 s2 a2 s3 a3 n2 l2 cG cS cJ1 cS2 cS3 cJ2 xo7 gg7 gr7 ce7 tr7 sh7 ar7 ti7 n17 l17 s27 a27 s37 a37 n27 l27 cG7 cS7 cJ17 cS27 cS37 cJ27 no mo wdo cto pao nmo dpo kio np mp wdp ctp pap nmp dpp kip H locs) (hls : ls.size = 13) (hc9 : cells ≤ 1019453) (hs9 : slots ≤ 6043265)
    (kk : W p l e room_1 s mi9 #[Value.ref b] belowM methM cM H locs cells slots Q (F0 mi9 80 ls (.int (nI mo) :: []))) : W p l e room_1 s mi9 #[Value.ref b] belowM methM cM H locs cells slots Q (F0 mi9 77 ls (.ref xo :: [])) := by
  obtain ⟨hx, hb, hml, hown, hts, hX, hbl, hbA, hA, hK, hNw, hZ, hXt, hst, hL⟩ := hE
  obtain ⟨X, Y, hO, hO7, hP, hD, hS⟩ := hW
  obtain ⟨ea, wa, ic, lf, pt, fc, f, fN, z1, fk, fr, z3, fs, z2, hXe, hfe, hfk⟩ := hO
  subst hXe
  have hPX := q_left hP
  have hK9 : va_K D vwCl [] s := hKo.sub (tys' := []) [] rfl
  refine vp_callSi (W.runV (As := []) (rest := []) ⟨hx, hb, hml, hown, hts⟩ (c_X9_words (l := l) (D := D) (xo := xo) (gg := gg) (gr := gr) (ce := ce) (tr := tr) (sh := sh) (ar := ar) (ti := ti) (n1 := n1) (l1 := l1) (s2 := s2) (a2 := a2) (s3 := s3) (a3 := a3) (n2 := n2) (l2 := l2) (m := mo)) (cwV 0 hts gL_law_X9_words rfl rfl rfl (by decide +kernel) ⟨Nat.le_of_ble_eq_true rfl, Nat.le_of_ble_eq_true rfl⟩) ⟨qP_blind, (va_recv hK9 hPX (ci := 8) (q0 := 0) rfl rfl), qP_of (hPX.sub (ws' := [(xo, .inr (8, [.ref gg, .ref tr, .ref ti, .ref s2, .ref s3, .ref n2])), (s2, .inr (4, [.ref a2, .int (nI mo)]))]) [0, 10] rfl) hK9 hNw⟩ rfl rfl hls rfl (lv_room (Nat.le_of_ble_eq_true rfl)) dL_law_77 ⟨by show cells + 0 ≤ 1019453; exact hc9, by show slots + 0 ≤ 6043265; exact hs9⟩) (fun r hr => ?_)
  subst hr
  exact kk

set_option maxRecDepth 100000 in
theorem lw_words95 {p : Program} {l : Launch} {e : Env} {s : State} {mi9 : MethodId} {belowM : List Frame} {methM : Method} {cM : Code} {Q : State → Prop} {D : va_G} {A : Nat → Prop} {b L : Nat} {xs : Nat → Int32} {xo gg gr ce tr sh ar ti n1 l1 s2 a2 s3 a3 n2 l2 : Nat} {cG cS cJ1 cS2 cS3 cJ2 : ClassId} {xo7 gg7 gr7 ce7 tr7 sh7 ar7 ti7 n17 l17 s27 a27 s37 a37 n27 l27 : Nat} {cG7 cS7 cJ17 cS27 cS37 cJ27 : ClassId} {no mo : Nat} {wdo cto : Nat → Nat} {pao : Nat → Option Nat} {nmo dpo kio : Nat → Nat} {np mp : Nat} {wdp ctp : Nat → Nat} {pap : Nat → Option Nat} {nmp dpp kip : Nat → Nat} {H : Heap} {locs : List Loc} {ls : Array Slot} {cells slots : Nat} {tys : List (ClassId × FieldType)} {y : Int32} (hE : LWE p l s mi9 cM D A b L xs tys) (hKo : va_K D vwCl [(cG, .int), (cS, .object "FuzzyFens$Entry"), (cJ1, .long), (cS2, .object "FuzzyFens$Entry"), (cS3, .object "FuzzyFens$Entry"), (cJ2, .long)] s) (hW : LWS D s A xo gg gr ce tr sh ar ti n1 l1 s2 a2 s3 a3 n2 l2 cG cS cJ1 cS2 cS3 cJ2 xo7 gg7 gr7 ce7 tr7 sh7 ar7 ti7 n17 l17 s27 a27 s37 a37 n27 l27 cG7 cS7 cJ17 cS27 cS37 cJ27 no mo wdo cto pao nmo dpo kio np mp wdp ctp pap nmp dpp kip H locs) (hls : ls.size = 13) (hc9 : cells ≤ 1019453) (hs9 : slots ≤ 6043265)
    (kk : W p l e room_1 s mi9 #[Value.ref b] belowM methM cM H locs cells slots Q (F0 mi9 98 ls (.int (nI mo) :: [.int y, .ref xo]))) : W p l e room_1 s mi9 #[Value.ref b] belowM methM cM H locs cells slots Q (F0 mi9 95 ls (.ref xo :: [.int y, .ref xo])) := by
  obtain ⟨hx, hb, hml, hown, hts, hX, hbl, hbA, hA, hK, hNw, hZ, hXt, hst, hL⟩ := hE
  obtain ⟨X, Y, hO, hO7, hP, hD, hS⟩ := hW
  obtain ⟨ea, wa, ic, lf, pt, fc, f, fN, z1, fk, fr, z3, fs, z2, hXe, hfe, hfk⟩ := hO
  subst hXe
  have hPX := q_left hP
  have hK9 : va_K D vwCl [] s := hKo.sub (tys' := []) [] rfl
  refine vp_callSi (W.runV (As := []) (rest := [.int y, .ref xo]) ⟨hx, hb, hml, hown, hts⟩ (c_X9_words (l := l) (D := D) (xo := xo) (gg := gg) (gr := gr) (ce := ce) (tr := tr) (sh := sh) (ar := ar) (ti := ti) (n1 := n1) (l1 := l1) (s2 := s2) (a2 := a2) (s3 := s3) (a3 := a3) (n2 := n2) (l2 := l2) (m := mo)) (cwV 0 hts gL_law_X9_words rfl rfl rfl (by decide +kernel) ⟨Nat.le_of_ble_eq_true rfl, Nat.le_of_ble_eq_true rfl⟩) ⟨qP_blind, (va_recv hK9 hPX (ci := 8) (q0 := 0) rfl rfl), qP_of (hPX.sub (ws' := [(xo, .inr (8, [.ref gg, .ref tr, .ref ti, .ref s2, .ref s3, .ref n2])), (s2, .inr (4, [.ref a2, .int (nI mo)]))]) [0, 10] rfl) hK9 hNw⟩ rfl rfl hls rfl (lv_room (Nat.le_of_ble_eq_true rfl)) dL_law_95 ⟨by show cells + 0 ≤ 1019453; exact hc9, by show slots + 0 ≤ 6043265; exact hs9⟩) (fun r hr => ?_)
  subst hr
  exact kk

set_option maxHeartbeats 4000000 in
set_option maxRecDepth 100000 in
theorem lw_wat {p : Program} {l : Launch} {e : Env} {s : State} {mi9 : MethodId} {belowM : List Frame} {methM : Method} {cM : Code} {Q : State → Prop} {D : va_G} {A : Nat → Prop} {b L : Nat} {xs : Nat → Int32} {xo gg gr ce tr sh ar ti n1 l1 s2 a2 s3 a3 n2 l2 : Nat} {cG cS cJ1 cS2 cS3 cJ2 : ClassId} {xo7 gg7 gr7 ce7 tr7 sh7 ar7 ti7 n17 l17 s27 a27 s37 a37 n27 l27 : Nat} {cG7 cS7 cJ17 cS27 cS37 cJ27 : ClassId} {no mo : Nat} {wdo cto : Nat → Nat} {pao : Nat → Option Nat} {nmo dpo kio : Nat → Nat} {np mp : Nat} {wdp ctp : Nat → Nat} {pap : Nat → Option Nat} {nmp dpp kip : Nat → Nat} {H : Heap} {locs : List Loc} {ls : Array Slot} {cells slots : Nat} {tys : List (ClassId × FieldType)} (hE : LWE p l s mi9 cM D A b L xs tys) (hKo : va_K D vwCl [(cG, .int), (cS, .object "FuzzyFens$Entry"), (cJ1, .long), (cS2, .object "FuzzyFens$Entry"), (cS3, .object "FuzzyFens$Entry"), (cJ2, .long)] s) (hI : INV no wdo cto pao nmo dpo kio mo) (hB : BK no wdo pao nmo) (hW : LWS D s A xo gg gr ce tr sh ar ti n1 l1 s2 a2 s3 a3 n2 l2 cG cS cJ1 cS2 cS3 cJ2 xo7 gg7 gr7 ce7 tr7 sh7 ar7 ti7 n17 l17 s27 a27 s37 a37 n27 l27 cG7 cS7 cJ17 cS27 cS37 cJ27 no mo wdo cto pao nmo dpo kio np mp wdp ctp pap nmp dpp kip H locs) {k : Nat} (hk9 : k < mo) (hls : ls.size = 13) (hc9 : cells + 1 ≤ 1019453) (hs9 : slots + 6 ≤ 6043265)
    (kk : ∀ (H1 : Heap) (locs1 : List Loc), LWS D s A xo gg gr ce tr sh ar ti n1 l1 s2 a2 s3 a3 n2 l2 cG cS cJ1 cS2 cS3 cJ2 xo7 gg7 gr7 ce7 tr7 sh7 ar7 ti7 n17 l17 s27 a27 s37 a37 n27 l27 cG7 cS7 cJ17 cS27 cS37 cJ27 no mo wdo cto pao nmo dpo kio np mp wdp ctp pap nmp dpp kip H1 locs1 → W p l e room_1 s mi9 #[Value.ref b] belowM methM cM H1 locs1 (cells + 1) (slots + 6) Q (F0 mi9 104 ls [.long (lN (wdo (kio k)))])) : W p l e room_1 s mi9 #[Value.ref b] belowM methM cM H locs cells slots Q (F0 mi9 101 ls [.int (nI k), .ref xo]) := by
  obtain ⟨hx, hb, hml, hown, hts, hX, hbl, hbA, hA, hK, hNw, hZ, hXt, hst, hL⟩ := hE
  obtain ⟨X, Y, hO, hO7, hP, hD, hS⟩ := hW
  obtain ⟨ea, wa, ic, lf, pt, fc, f, fN, z1, fk, fr, z3, fs, z2, hXe, hfe, hfk⟩ := hO
  subst hXe
  have hI0 := hI
  obtain ⟨hn40, hg, hwi, hct, hpn, hun, hnm, hnz, hdp, hKN, hSR⟩ := hI0
  have hmn := kn_le hKN hSR
  have hm : mo ≤ 40 := Nat.le_trans hmn hn40
  have hki : ∀ j, j < mo → kio j < no := fun j h => (hKN.1 j h).1
  have hkp : ∀ j, j < mo → 0 < cto (kio j) := fun j h => (hKN.1 j h).2
  have hcb : ∀ k, k < no → cto k < 2 ^ 31 := fun k h => by have := hct k h; omega
  have hmz : ∀ i, i < no → cto i = 0 → mo < no := fun i h h0 => kn_lt hKN hSR h h0
  have hkinj := srt_inj hSR
  have hPX := q_left hP
  have hDX := q_Dl (sz := H.size) hD
  have hF := q_Fl hD hS hA
  have hK9 : va_K D vwCl [(cS2, .object "FuzzyFens$Entry")] s := hKo.sub (tys' := [(cS2, .object "FuzzyFens$Entry")]) [3] rfl
  have hnd : (([] : List Nat) ++ ([xo, s2, a2] ++ (rg ea no ++ rg wa no))).Nodup := by
    have h := ow_nd hDX
    rw [List.append_nil] at h
    exact q_ndt (a := []) (b := [xo, gg, gr, ce, tr, sh, ar, ti, n1, l1, s2, a2, s3, a3, n2, l2]) (a' := []) (b' := [xo, s2, a2]) h [0, 10, 11] rfl rfl
  have hF0 : ∀ q, va_A [] H.size q → A q := fun q h => hA q (Nat.le_trans hS.1 (q_A0 q h))
  refine vx_calll (vx_runV (As := [.int (nI k)]) (rest := []) ⟨hx, hb, hml, hown, hts⟩ (c_X9_wordAt (l := l) (D := D) (xo := xo) (gg := gg) (gr := gr) (ce := ce) (tr := tr) (sh := sh) (ar := ar) (ti := ti) (n1 := n1) (l1 := l1) (s2 := s2) (a2 := a2) (s3 := s3) (a3 := a3) (n2 := n2) (l2 := l2) (cS2 := cS2) (fk := fk) (m := mo) (ki := kio) (ea := ea) (wa := wa) (pf := (fun k => (pao k).map ea)) (cn := nmo) (dp := dpo) (oc := cto) (ic := ic) (lf := lf) (pt := pt) (wd := wdo) (n := no) (x9 := nI k) (sz := H.size) (hnd := hnd) (hst := hst) (hm := hm) (hf := hfk) (hki := hki)) (cwV 1 hts gL_law_X9_wordAt rfl rfl rfl (by decide +kernel) ⟨Nat.le_of_ble_eq_true rfl, Nat.le_of_ble_eq_true rfl⟩) ⟨qWx_blind, (va_recv hK9 hPX (ci := 8) (q0 := 0) rfl rfl), qWx_of (va_P.app (hPX.sub (ws' := [(xo, .inr (8, [.ref gg, .ref tr, .ref ti, .ref s2, .ref s3, .ref n2])), (s2, .inr (4, [.ref a2, .int (nI mo)])), (a2, .inl (cS2, 40, .inr (.inr (.inr (.inr fk)))))]) [0, 10, 11] rfl) (q_right (hPX : va_P D vwCl ([(xo, .inr (8, [.ref gg, .ref tr, .ref ti, .ref s2, .ref s3, .ref n2])), (gg, .inr (1, [.ref gr])), (gr, .inr (2, [.ref ce])), (ce, .inl (cG, 121, .inl fc)), (tr, .inr (5, [.ref sh])), (sh, .inr (4, [.ref ar, .int (nI no)])), (ar, .inl (cS, 40, .inr (.inr (.inr (.inr f))))), (ti, .inr (6, [.ref n1])), (n1, .inr (3, [.ref l1, .int z1])), (l1, .inl (cJ1, 401, .inr (.inl fN))), (s2, .inr (4, [.ref a2, .int (nI mo)])), (a2, .inl (cS2, 40, .inr (.inr (.inr (.inr fk))))), (s3, .inr (4, [.ref a3, .int z3])), (a3, .inl (cS3, 40, .inr (.inr (.inr (.inr fr))))), (n2, .inr (3, [.ref l2, .int z2])), (l2, .inl (cJ2, 56, .inr (.inl fs)))] ++ (EW ea wa (fun k => (pao k).map ea) nmo dpo cto ic lf pt no ++ WW wa wdo no)) H))) q_R0 hK9 hNw (qZ_at hZ hS (fun q h => hF0 q h)) hXt⟩ rfl rfl hls rfl (lv_room (Nat.le_of_ble_eq_true rfl)) dL_law_101 ⟨by show _ ≤ 1019453; exact hc9, by show _ ≤ 6043265; exact hs9⟩) hS (fun q _ h => hF0 q h) hF0 (fun q _ h => hF0 q h) (fun E9 ce9 q9 u9 t9 H9 locs9 ht9 hvm9 hpx9 hBX9 hz9 hk9x hS9 hc9x hv9 hcl9 => ?_) (fun r u t H1 locs1 ht hvm hw hB1 hz1 hk1 hS1 => ?_)
  · obtain ⟨hE9, hW9⟩ := hBX9
    exact False.elim (hE9.2 (q_rng hk9 hm))
  · obtain ⟨e0, _⟩ := hw
    rw [kz_nI (by omega)] at e0
    subst e0
    exact kk H1 locs1 ⟨_, Y, ⟨ea, wa, ic, lf, pt, fc, f, fN, z1, fk, fr, z3, fs, z2, rfl, hfe, hfk⟩, hO7, q_keepP hP hk1 q_A0, hD, hS1⟩

set_option maxHeartbeats 4000000 in
set_option maxRecDepth 100000 in
theorem lw_fgt154 {p : Program} {l : Launch} {e : Env} {s : State} {mi9 : MethodId} {belowM : List Frame} {methM : Method} {cM : Code} {Q : State → Prop} {D : va_G} {A : Nat → Prop} {b L : Nat} {xs : Nat → Int32} {xo gg gr ce tr sh ar ti n1 l1 s2 a2 s3 a3 n2 l2 : Nat} {cG cS cJ1 cS2 cS3 cJ2 : ClassId} {xo7 gg7 gr7 ce7 tr7 sh7 ar7 ti7 n17 l17 s27 a27 s37 a37 n27 l27 : Nat} {cG7 cS7 cJ17 cS27 cS37 cJ27 : ClassId} {no mo : Nat} {wdo cto : Nat → Nat} {pao : Nat → Option Nat} {nmo dpo kio : Nat → Nat} {np mp : Nat} {wdp ctp : Nat → Nat} {pap : Nat → Option Nat} {nmp dpp kip : Nat → Nat} {H : Heap} {locs : List Loc} {ls : Array Slot} {cells slots : Nat} {tys : List (ClassId × FieldType)} (hE : LWE p l s mi9 cM D A b L xs tys) (hKo : va_K D vwCl [(cG, .int), (cS, .object "FuzzyFens$Entry"), (cJ1, .long), (cS2, .object "FuzzyFens$Entry"), (cS3, .object "FuzzyFens$Entry"), (cJ2, .long)] s) (hI : INV no wdo cto pao nmo dpo kio mo) (hB : BK no wdo pao nmo) (hW : LWS D s A xo gg gr ce tr sh ar ti n1 l1 s2 a2 s3 a3 n2 l2 cG cS cJ1 cS2 cS3 cJ2 xo7 gg7 gr7 ce7 tr7 sh7 ar7 ti7 n17 l17 s27 a27 s37 a37 n27 l27 cG7 cS7 cJ17 cS27 cS37 cJ27 no mo wdo cto pao nmo dpo kio np mp wdp ctp pap nmp dpp kip H locs) {a : Nat} (ha : a < 2 ^ 64) (hls : ls.size = 13) (hc9 : cells + 2 ≤ 1019453) (hs9 : slots + 12 ≤ 6043265)
    (kk : ∀ (r : Int32) (H1 : Heap) (locs1 : List Loc), ((r = (-99999) ∧ (¬ gw a ∨ (gw a ∧ ∀ i, ffi (fun k => decide (wdo k = a)) no = some i → cto i = 0)) ∧ LWS D s A xo gg gr ce tr sh ar ti n1 l1 s2 a2 s3 a3 n2 l2 cG cS cJ1 cS2 cS3 cJ2 xo7 gg7 gr7 ce7 tr7 sh7 ar7 ti7 n17 l17 s27 a27 s37 a37 n27 l27 cG7 cS7 cJ17 cS27 cS37 cJ27 no mo wdo cto pao nmo dpo kio np mp wdp ctp pap nmp dpp kip H1 locs1) ∨ (gw a ∧ ∃ (mq : Nat) (ctq kiq : Nat → Nat), FGT no mo wdo cto pao nmo dpo kio a mq ctq kiq r ∧ LWS D s A xo gg gr ce tr sh ar ti n1 l1 s2 a2 s3 a3 n2 l2 cG cS cJ1 cS2 cS3 cJ2 xo7 gg7 gr7 ce7 tr7 sh7 ar7 ti7 n17 l17 s27 a27 s37 a37 n27 l27 cG7 cS7 cJ17 cS27 cS37 cJ27 no mq wdo ctq pao nmo dpo kiq np mp wdp ctp pap nmp dpp kip H1 locs1)) → W p l e room_1 s mi9 #[Value.ref b] belowM methM cM H1 locs1 (cells + 2) (slots + 12) Q (F0 mi9 157 ls [.int r])) : W p l e room_1 s mi9 #[Value.ref b] belowM methM cM H locs cells slots Q (F0 mi9 154 ls [.long (lN a), .ref xo]) := by
  obtain ⟨hx, hb, hml, hown, hts, hX, hbl, hbA, hA, hK, hNw, hZ, hXt, hst, hL⟩ := hE
  obtain ⟨X, Y, hO, hO7, hP, hD, hS⟩ := hW
  obtain ⟨ea, wa, ic, lf, pt, fc, f, fN, z1, fk, fr, z3, fs, z2, hXe, hfe, hfk⟩ := hO
  subst hXe
  have hI0 := hI
  obtain ⟨hn40, hg, hwi, hct, hpn, hun, hnm, hnz, hdp, hKN, hSR⟩ := hI0
  have hmn := kn_le hKN hSR
  have hm : mo ≤ 40 := Nat.le_trans hmn hn40
  have hki : ∀ j, j < mo → kio j < no := fun j h => (hKN.1 j h).1
  have hkp : ∀ j, j < mo → 0 < cto (kio j) := fun j h => (hKN.1 j h).2
  have hcb : ∀ k, k < no → cto k < 2 ^ 31 := fun k h => by have := hct k h; omega
  have hmz : ∀ i, i < no → cto i = 0 → mo < no := fun i h h0 => kn_lt hKN hSR h h0
  have hkinj := srt_inj hSR
  have hPX := q_left hP
  have hDX := q_Dl (sz := H.size) hD
  have hF := q_Fl hD hS hA
  refine va_calli (vx_runSW (As := [.ref xo, .long (lN a)]) (rest := []) ⟨hx, hb, hml, hown, hts⟩ (c_L_forget (l := l) (D := D) (xo := xo) (gg := gg) (gr := gr) (ce := ce) (tr := tr) (sh := sh) (ar := ar) (ti := ti) (n1 := n1) (l1 := l1) (s2 := s2) (a2 := a2) (s3 := s3) (a3 := a3) (n2 := n2) (l2 := l2) (cG := cG) (fc := fc) (cS := cS) (f := f) (cJ1 := cJ1) (fN := fN) (z1 := z1) (cS2 := cS2) (fk := fk) (m := mo) (ki := kio) (cS3 := cS3) (fr := fr) (z3 := z3) (cJ2 := cJ2) (fs := fs) (z2 := z2) (ea := ea) (wa := wa) (pf := (fun k => (pao k).map ea)) (cn := nmo) (dp := dpo) (oc := cto) (ic := ic) (lf := lf) (pt := pt) (wd := wdo) (n := no) (a := a) (sz := H.size) (hnd := ow_nd hDX) (hst := hst) (ha := ha) (hfe := hfe) (hn40 := hn40) (hg := hg) (hm := hm) (hf := hfk) (hki := hki) (hob := hct) (hinj := (ow_ei hDX)) (hkinj := hkinj) (hkn := hKN.2)) (vx_cwSW 2 hts gL_law_L_forget rfl rfl rfl (by decide +kernel) ⟨Nat.le_of_ble_eq_true rfl, Nat.le_of_ble_eq_true rfl⟩) ⟨qWx_blind, qWx_of q_R0 hPX hKo hNw (qZ_at hZ hS (fun q h => hF q h)) hXt⟩ rfl rfl hls rfl (lv_room (Nat.le_of_ble_eq_true rfl)) dL_law_154 ⟨by show _ ≤ 1019453; exact hc9, by show _ ≤ 6043265; exact hs9⟩) hS (fun q _ h => hF q h) hF (fun r u t H1 locs1 ht hvm hw hB1 hz1 hk1 hS1 => ?_)
  obtain ⟨m2, fk2, oc2⟩ := u
  dsimp only at hw hB1
  have hB2 : va_P D vwCl (OW xo gg gr ce tr sh ar ti n1 l1 s2 a2 s3 a3 n2 l2 cG cS cJ1 cS2 cS3 cJ2 no m2 ea wa (fun k => (pao k).map ea) nmo dpo oc2 ic lf pt wdo fc f fN z1 fk2 fr z3 fs z2) H1 := by rw [← ht]; exact hB1
  obtain ⟨hP1, hD1⟩ := q_beside hP hD hk1 hF hB2 (q_Dfst (by rw [ow_fst, ow_fst]) hDX)
  refine kk r H1 locs1 ?_
  rcases hw with ⟨e0, hth, g1, g2, g3⟩ | ⟨hok, hcase⟩
  · refine Or.inl ⟨e0, hth, ⟨_, Y, ⟨ea, wa, ic, lf, pt, fc, f, fN, z1, fk, fr, z3, fs, z2, ?_, hfe, hfk⟩, hO7, hP1, hD1, hS1⟩⟩
    rw [g1, g2, g3]
  · obtain ⟨kiq, h1, h2⟩ := obj_fgt (xo := xo) (gg := gg) (gr := gr) (ce := ce) (tr := tr) (sh := sh) (ar := ar) (ti := ti) (n1 := n1) (l1 := l1) (s2 := s2) (a2 := a2) (s3 := s3) (a3 := a3) (n2 := n2) (l2 := l2) (cG := cG) (cS := cS) (cJ1 := cJ1) (cS2 := cS2) (cS3 := cS3) (cJ2 := cJ2) (wa := wa) (ic := ic) (lf := lf) (pt := pt) (fc := fc) (fN := fN) (z1 := z1) (fr := fr) (z3 := z3) (fs := fs) (z2 := z2) (pa := pao) (nm := nmo) (dp := dpo) hfe hcase
    exact Or.inr ⟨hok, m2, oc2, kiq, h1, ⟨_, Y, h2, hO7, hP1, hD1, hS1⟩⟩

set_option maxHeartbeats 4000000 in
set_option maxRecDepth 100000 in
theorem lw_fgt185 {p : Program} {l : Launch} {e : Env} {s : State} {mi9 : MethodId} {belowM : List Frame} {methM : Method} {cM : Code} {Q : State → Prop} {D : va_G} {A : Nat → Prop} {b L : Nat} {xs : Nat → Int32} {xo gg gr ce tr sh ar ti n1 l1 s2 a2 s3 a3 n2 l2 : Nat} {cG cS cJ1 cS2 cS3 cJ2 : ClassId} {xo7 gg7 gr7 ce7 tr7 sh7 ar7 ti7 n17 l17 s27 a27 s37 a37 n27 l27 : Nat} {cG7 cS7 cJ17 cS27 cS37 cJ27 : ClassId} {no mo : Nat} {wdo cto : Nat → Nat} {pao : Nat → Option Nat} {nmo dpo kio : Nat → Nat} {np mp : Nat} {wdp ctp : Nat → Nat} {pap : Nat → Option Nat} {nmp dpp kip : Nat → Nat} {H : Heap} {locs : List Loc} {ls : Array Slot} {cells slots : Nat} {tys : List (ClassId × FieldType)} (hE : LWE p l s mi9 cM D A b L xs tys) (hKo : va_K D vwCl [(cG, .int), (cS, .object "FuzzyFens$Entry"), (cJ1, .long), (cS2, .object "FuzzyFens$Entry"), (cS3, .object "FuzzyFens$Entry"), (cJ2, .long)] s) (hI : INV no wdo cto pao nmo dpo kio mo) (hB : BK no wdo pao nmo) (hW : LWS D s A xo gg gr ce tr sh ar ti n1 l1 s2 a2 s3 a3 n2 l2 cG cS cJ1 cS2 cS3 cJ2 xo7 gg7 gr7 ce7 tr7 sh7 ar7 ti7 n17 l17 s27 a27 s37 a37 n27 l27 cG7 cS7 cJ17 cS27 cS37 cJ27 no mo wdo cto pao nmo dpo kio np mp wdp ctp pap nmp dpp kip H locs) {a : Nat} (ha : a < 2 ^ 64) (hls : ls.size = 13) (hc9 : cells + 2 ≤ 1019453) (hs9 : slots + 12 ≤ 6043265)
    (kk : ∀ (r : Int32) (H1 : Heap) (locs1 : List Loc), ((r = (-99999) ∧ (¬ gw a ∨ (gw a ∧ ∀ i, ffi (fun k => decide (wdo k = a)) no = some i → cto i = 0)) ∧ LWS D s A xo gg gr ce tr sh ar ti n1 l1 s2 a2 s3 a3 n2 l2 cG cS cJ1 cS2 cS3 cJ2 xo7 gg7 gr7 ce7 tr7 sh7 ar7 ti7 n17 l17 s27 a27 s37 a37 n27 l27 cG7 cS7 cJ17 cS27 cS37 cJ27 no mo wdo cto pao nmo dpo kio np mp wdp ctp pap nmp dpp kip H1 locs1) ∨ (gw a ∧ ∃ (mq : Nat) (ctq kiq : Nat → Nat), FGT no mo wdo cto pao nmo dpo kio a mq ctq kiq r ∧ LWS D s A xo gg gr ce tr sh ar ti n1 l1 s2 a2 s3 a3 n2 l2 cG cS cJ1 cS2 cS3 cJ2 xo7 gg7 gr7 ce7 tr7 sh7 ar7 ti7 n17 l17 s27 a27 s37 a37 n27 l27 cG7 cS7 cJ17 cS27 cS37 cJ27 no mq wdo ctq pao nmo dpo kiq np mp wdp ctp pap nmp dpp kip H1 locs1)) → W p l e room_1 s mi9 #[Value.ref b] belowM methM cM H1 locs1 (cells + 2) (slots + 12) Q (F0 mi9 188 ls [.int r])) : W p l e room_1 s mi9 #[Value.ref b] belowM methM cM H locs cells slots Q (F0 mi9 185 ls [.long (lN a), .ref xo]) := by
  obtain ⟨hx, hb, hml, hown, hts, hX, hbl, hbA, hA, hK, hNw, hZ, hXt, hst, hL⟩ := hE
  obtain ⟨X, Y, hO, hO7, hP, hD, hS⟩ := hW
  obtain ⟨ea, wa, ic, lf, pt, fc, f, fN, z1, fk, fr, z3, fs, z2, hXe, hfe, hfk⟩ := hO
  subst hXe
  have hI0 := hI
  obtain ⟨hn40, hg, hwi, hct, hpn, hun, hnm, hnz, hdp, hKN, hSR⟩ := hI0
  have hmn := kn_le hKN hSR
  have hm : mo ≤ 40 := Nat.le_trans hmn hn40
  have hki : ∀ j, j < mo → kio j < no := fun j h => (hKN.1 j h).1
  have hkp : ∀ j, j < mo → 0 < cto (kio j) := fun j h => (hKN.1 j h).2
  have hcb : ∀ k, k < no → cto k < 2 ^ 31 := fun k h => by have := hct k h; omega
  have hmz : ∀ i, i < no → cto i = 0 → mo < no := fun i h h0 => kn_lt hKN hSR h h0
  have hkinj := srt_inj hSR
  have hPX := q_left hP
  have hDX := q_Dl (sz := H.size) hD
  have hF := q_Fl hD hS hA
  refine va_calli (vx_runSW (As := [.ref xo, .long (lN a)]) (rest := []) ⟨hx, hb, hml, hown, hts⟩ (c_L_forget (l := l) (D := D) (xo := xo) (gg := gg) (gr := gr) (ce := ce) (tr := tr) (sh := sh) (ar := ar) (ti := ti) (n1 := n1) (l1 := l1) (s2 := s2) (a2 := a2) (s3 := s3) (a3 := a3) (n2 := n2) (l2 := l2) (cG := cG) (fc := fc) (cS := cS) (f := f) (cJ1 := cJ1) (fN := fN) (z1 := z1) (cS2 := cS2) (fk := fk) (m := mo) (ki := kio) (cS3 := cS3) (fr := fr) (z3 := z3) (cJ2 := cJ2) (fs := fs) (z2 := z2) (ea := ea) (wa := wa) (pf := (fun k => (pao k).map ea)) (cn := nmo) (dp := dpo) (oc := cto) (ic := ic) (lf := lf) (pt := pt) (wd := wdo) (n := no) (a := a) (sz := H.size) (hnd := ow_nd hDX) (hst := hst) (ha := ha) (hfe := hfe) (hn40 := hn40) (hg := hg) (hm := hm) (hf := hfk) (hki := hki) (hob := hct) (hinj := (ow_ei hDX)) (hkinj := hkinj) (hkn := hKN.2)) (vx_cwSW 2 hts gL_law_L_forget rfl rfl rfl (by decide +kernel) ⟨Nat.le_of_ble_eq_true rfl, Nat.le_of_ble_eq_true rfl⟩) ⟨qWx_blind, qWx_of q_R0 hPX hKo hNw (qZ_at hZ hS (fun q h => hF q h)) hXt⟩ rfl rfl hls rfl (lv_room (Nat.le_of_ble_eq_true rfl)) dL_law_185 ⟨by show _ ≤ 1019453; exact hc9, by show _ ≤ 6043265; exact hs9⟩) hS (fun q _ h => hF q h) hF (fun r u t H1 locs1 ht hvm hw hB1 hz1 hk1 hS1 => ?_)
  obtain ⟨m2, fk2, oc2⟩ := u
  dsimp only at hw hB1
  have hB2 : va_P D vwCl (OW xo gg gr ce tr sh ar ti n1 l1 s2 a2 s3 a3 n2 l2 cG cS cJ1 cS2 cS3 cJ2 no m2 ea wa (fun k => (pao k).map ea) nmo dpo oc2 ic lf pt wdo fc f fN z1 fk2 fr z3 fs z2) H1 := by rw [← ht]; exact hB1
  obtain ⟨hP1, hD1⟩ := q_beside hP hD hk1 hF hB2 (q_Dfst (by rw [ow_fst, ow_fst]) hDX)
  refine kk r H1 locs1 ?_
  rcases hw with ⟨e0, hth, g1, g2, g3⟩ | ⟨hok, hcase⟩
  · refine Or.inl ⟨e0, hth, ⟨_, Y, ⟨ea, wa, ic, lf, pt, fc, f, fN, z1, fk, fr, z3, fs, z2, ?_, hfe, hfk⟩, hO7, hP1, hD1, hS1⟩⟩
    rw [g1, g2, g3]
  · obtain ⟨kiq, h1, h2⟩ := obj_fgt (xo := xo) (gg := gg) (gr := gr) (ce := ce) (tr := tr) (sh := sh) (ar := ar) (ti := ti) (n1 := n1) (l1 := l1) (s2 := s2) (a2 := a2) (s3 := s3) (a3 := a3) (n2 := n2) (l2 := l2) (cG := cG) (cS := cS) (cJ1 := cJ1) (cS2 := cS2) (cS3 := cS3) (cJ2 := cJ2) (wa := wa) (ic := ic) (lf := lf) (pt := pt) (fc := fc) (fN := fN) (z1 := z1) (fr := fr) (z3 := z3) (fs := fs) (z2 := z2) (pa := pao) (nm := nmo) (dp := dpo) hfe hcase
    exact Or.inr ⟨hok, m2, oc2, kiq, h1, ⟨_, Y, h2, hO7, hP1, hD1, hS1⟩⟩

set_option maxHeartbeats 4000000 in
set_option maxRecDepth 100000 in
theorem lw_add165 {p : Program} {l : Launch} {e : Env} {s : State} {mi9 : MethodId} {belowM : List Frame} {methM : Method} {cM : Code} {Q : State → Prop} {D : va_G} {A : Nat → Prop} {b L : Nat} {xs : Nat → Int32} {xo gg gr ce tr sh ar ti n1 l1 s2 a2 s3 a3 n2 l2 : Nat} {cG cS cJ1 cS2 cS3 cJ2 : ClassId} {xo7 gg7 gr7 ce7 tr7 sh7 ar7 ti7 n17 l17 s27 a27 s37 a37 n27 l27 : Nat} {cG7 cS7 cJ17 cS27 cS37 cJ27 : ClassId} {no mo : Nat} {wdo cto : Nat → Nat} {pao : Nat → Option Nat} {nmo dpo kio : Nat → Nat} {np mp : Nat} {wdp ctp : Nat → Nat} {pap : Nat → Option Nat} {nmp dpp kip : Nat → Nat} {H : Heap} {locs : List Loc} {ls : Array Slot} {cells slots : Nat} {tys : List (ClassId × FieldType)} (hE : LWE p l s mi9 cM D A b L xs tys) (hKo : va_K D vwCl [(cG, .int), (cS, .object "FuzzyFens$Entry"), (cJ1, .long), (cS2, .object "FuzzyFens$Entry"), (cS3, .object "FuzzyFens$Entry"), (cJ2, .long)] s) (hI : INV no wdo cto pao nmo dpo kio mo) (hB : BK no wdo pao nmo) (hW : LWS D s A xo gg gr ce tr sh ar ti n1 l1 s2 a2 s3 a3 n2 l2 cG cS cJ1 cS2 cS3 cJ2 xo7 gg7 gr7 ce7 tr7 sh7 ar7 ti7 n17 l17 s27 a27 s37 a37 n27 l27 cG7 cS7 cJ17 cS27 cS37 cJ27 no mo wdo cto pao nmo dpo kio np mp wdp ctp pap nmp dpp kip H locs) {a : Nat} {x9 : Int32} (ha : a < 2 ^ 64) (hls : ls.size = 13) (hc9 : cells + 3 ≤ 1019453) (hs9 : slots + 20 ≤ 6043265)
    (kk : ∀ (r : Int32) (H1 : Heap) (locs1 : List Loc), ((r = (-99999) ∧ (¬ (gw a ∧ nI 1 ≤ x9 ∧ x9 ≤ nI 1000) ∨ ((gw a ∧ nI 1 ≤ x9 ∧ x9 ≤ nI 1000) ∧ ((ffi (fun k => decide (wdo k = a)) no = none ∧ no = 40) ∨ ∃ i, ffi (fun k => decide (wdo k = a)) no = some i ∧ 1000000 < cto i + kz x9))) ∧ LWS D s A xo gg gr ce tr sh ar ti n1 l1 s2 a2 s3 a3 n2 l2 cG cS cJ1 cS2 cS3 cJ2 xo7 gg7 gr7 ce7 tr7 sh7 ar7 ti7 n17 l17 s27 a27 s37 a37 n27 l27 cG7 cS7 cJ17 cS27 cS37 cJ27 no mo wdo cto pao nmo dpo kio np mp wdp ctp pap nmp dpp kip H1 locs1) ∨ ((gw a ∧ nI 1 ≤ x9 ∧ x9 ≤ nI 1000) ∧ ∃ (nq mq : Nat) (wdq ctq : Nat → Nat) (paq : Nat → Option Nat) (nmq dpq kiq : Nat → Nat), ADD no mo wdo cto pao nmo dpo kio a (kz x9) nq mq wdq ctq paq nmq dpq kiq r ∧ LWS D s A xo gg gr ce tr sh ar ti n1 l1 s2 a2 s3 a3 n2 l2 cG cS cJ1 cS2 cS3 cJ2 xo7 gg7 gr7 ce7 tr7 sh7 ar7 ti7 n17 l17 s27 a27 s37 a37 n27 l27 cG7 cS7 cJ17 cS27 cS37 cJ27 nq mq wdq ctq paq nmq dpq kiq np mp wdp ctp pap nmp dpp kip H1 locs1)) → W p l e room_1 s mi9 #[Value.ref b] belowM methM cM H1 locs1 (cells + 3) (slots + 20) Q (F0 mi9 168 ls [.int r])) : W p l e room_1 s mi9 #[Value.ref b] belowM methM cM H locs cells slots Q (F0 mi9 165 ls [.int x9, .long (lN a), .ref xo]) := by
  obtain ⟨hx, hb, hml, hown, hts, hX, hbl, hbA, hA, hK, hNw, hZ, hXt, hst, hL⟩ := hE
  obtain ⟨X, Y, hO, hO7, hP, hD, hS⟩ := hW
  obtain ⟨ea, wa, ic, lf, pt, fc, f, fN, z1, fk, fr, z3, fs, z2, hXe, hfe, hfk⟩ := hO
  subst hXe
  have hI0 := hI
  obtain ⟨hn40, hg, hwi, hct, hpn, hun, hnm, hnz, hdp, hKN, hSR⟩ := hI0
  have hmn := kn_le hKN hSR
  have hm : mo ≤ 40 := Nat.le_trans hmn hn40
  have hki : ∀ j, j < mo → kio j < no := fun j h => (hKN.1 j h).1
  have hkp : ∀ j, j < mo → 0 < cto (kio j) := fun j h => (hKN.1 j h).2
  have hcb : ∀ k, k < no → cto k < 2 ^ 31 := fun k h => by have := hct k h; omega
  have hmz : ∀ i, i < no → cto i = 0 → mo < no := fun i h h0 => kn_lt hKN hSR h h0
  have hkinj := srt_inj hSR
  have hPX := q_left hP
  have hDX := q_Dl (sz := H.size) hD
  have hF := q_Fl hD hS hA
  refine va_calli (vx_runSW (As := [.ref xo, .long (lN a), .int x9]) (rest := []) ⟨hx, hb, hml, hown, hts⟩ (c_L_add (l := l) (D := D) (xo := xo) (gg := gg) (gr := gr) (ce := ce) (tr := tr) (sh := sh) (ar := ar) (ti := ti) (n1 := n1) (l1 := l1) (s2 := s2) (a2 := a2) (s3 := s3) (a3 := a3) (n2 := n2) (l2 := l2) (cG := cG) (fc := fc) (cS := cS) (f := f) (cJ1 := cJ1) (fN := fN) (z1 := z1) (cS2 := cS2) (fk := fk) (m := mo) (ki := kio) (cS3 := cS3) (fr := fr) (z3 := z3) (cJ2 := cJ2) (fs := fs) (z2 := z2) (ea := ea) (wa := wa) (pf := (fun k => (pao k).map ea)) (cn := nmo) (dp := dpo) (oc := cto) (ic := ic) (lf := lf) (pt := pt) (wd := wdo) (n := no) (pi := pao) (a := a) (x9 := x9) (sz := H.size) (hnd := ow_nd hDX) (hst := hst) (ha := ha) (hfe := hfe) (hn40 := hn40) (hg := hg) (hm := hm) (hf := hfk) (hki := hki) (hob := hct) (hinj := (ow_ei hDX)) (hpi := (fun _ _ => rfl)) (hpn := hpn) (hcb := hnm) (hmn := hmn) (hmz := hmz)) (vx_cwSW 3 hts gL_law_L_add rfl rfl rfl (by decide +kernel) ⟨Nat.le_of_ble_eq_true rfl, Nat.le_of_ble_eq_true rfl⟩) ⟨qWx_blind, qWx_of q_R0 hPX hKo hNw (qZ_at hZ hS (fun q h => hF q h)) hXt⟩ rfl rfl hls rfl (lv_room (Nat.le_of_ble_eq_true rfl)) dL_law_165 ⟨by show _ ≤ 1019453; exact hc9, by show _ ≤ 6043265; exact hs9⟩) hS (fun q _ h => hF q h) hF (fun r u t H1 locs1 ht hvm hw hB1 hz1 hk1 hS1 => ?_)
  obtain ⟨nq, fq, mq, fkq, kiq, fcq, eaq, waq, pfq, cnq, dpq, ocq, icq, lfq, ptq, wdq⟩ := u
  dsimp only at hw hB1
  obtain ⟨hB1, hB3⟩ := hB1
  have hB2 : va_P D vwCl (OW xo gg gr ce tr sh ar ti n1 l1 s2 a2 s3 a3 n2 l2 cG cS cJ1 cS2 cS3 cJ2 nq mq eaq waq pfq cnq dpq ocq icq lfq ptq wdq fcq fq fN z1 fkq fr z3 fs z2) H1 := by rw [← ht]; exact hB1
  have hB4 : va_D (va_A (OW xo gg gr ce tr sh ar ti n1 l1 s2 a2 s3 a3 n2 l2 cG cS cJ1 cS2 cS3 cJ2 no mo ea wa (fun k => (pao k).map ea) nmo dpo cto ic lf pt wdo fc f fN z1 fk fr z3 fs z2) H.size) (OW xo gg gr ce tr sh ar ti n1 l1 s2 a2 s3 a3 n2 l2 cG cS cJ1 cS2 cS3 cJ2 nq mq eaq waq pfq cnq dpq ocq icq lfq ptq wdq fcq fq fN z1 fkq fr z3 fs z2) := hB3
  obtain ⟨hP1, hD1⟩ := q_beside hP hD hk1 hF hB2 hB4
  refine kk r H1 locs1 ?_
  rcases hw with ⟨e0, hth, g1, g2, g3, g4, g5, g6, g7, g8, g9, g10, g11, g12⟩ | ⟨hok, hcase⟩
  · refine Or.inl ⟨e0, hth, ⟨_, Y, ⟨ea, wa, icq, lfq, ptq, fcq, f, fN, z1, fk, fr, z3, fs, z2, ?_, hfe, hfk⟩, hO7, hP1, hD1, hS1⟩⟩
    rw [g1, g2, g3, g4, g6, g7, g8, g9, g10, g11, g12]
  · obtain ⟨wd', ct', pa', nm', dp', h1, h2⟩ := obj_add (xo := xo) (gg := gg) (gr := gr) (ce := ce) (tr := tr) (sh := sh) (ar := ar) (ti := ti) (n1 := n1) (l1 := l1) (s2 := s2) (a2 := a2) (s3 := s3) (a3 := a3) (n2 := n2) (l2 := l2) (cG := cG) (cS := cS) (cJ1 := cJ1) (cS2 := cS2) (cS3 := cS3) (cJ2 := cJ2) (fN := fN) (z1 := z1) (fr := fr) (z3 := z3) (fs := fs) (z2 := z2) (waq := waq) (icq := icq) (lfq := lfq) (ptq := ptq) (fcq := fcq) hI hfe hfk hcase
    exact Or.inr ⟨hok, nq, mq, wd', ct', pa', nm', dp', kiq, h1, ⟨_, Y, h2, hO7, hP1, hD1, hS1⟩⟩

set_option maxHeartbeats 4000000 in
set_option maxRecDepth 100000 in
theorem lw_add196 {p : Program} {l : Launch} {e : Env} {s : State} {mi9 : MethodId} {belowM : List Frame} {methM : Method} {cM : Code} {Q : State → Prop} {D : va_G} {A : Nat → Prop} {b L : Nat} {xs : Nat → Int32} {xo gg gr ce tr sh ar ti n1 l1 s2 a2 s3 a3 n2 l2 : Nat} {cG cS cJ1 cS2 cS3 cJ2 : ClassId} {xo7 gg7 gr7 ce7 tr7 sh7 ar7 ti7 n17 l17 s27 a27 s37 a37 n27 l27 : Nat} {cG7 cS7 cJ17 cS27 cS37 cJ27 : ClassId} {no mo : Nat} {wdo cto : Nat → Nat} {pao : Nat → Option Nat} {nmo dpo kio : Nat → Nat} {np mp : Nat} {wdp ctp : Nat → Nat} {pap : Nat → Option Nat} {nmp dpp kip : Nat → Nat} {H : Heap} {locs : List Loc} {ls : Array Slot} {cells slots : Nat} {tys : List (ClassId × FieldType)} (hE : LWE p l s mi9 cM D A b L xs tys) (hKo : va_K D vwCl [(cG, .int), (cS, .object "FuzzyFens$Entry"), (cJ1, .long), (cS2, .object "FuzzyFens$Entry"), (cS3, .object "FuzzyFens$Entry"), (cJ2, .long)] s) (hI : INV no wdo cto pao nmo dpo kio mo) (hB : BK no wdo pao nmo) (hW : LWS D s A xo gg gr ce tr sh ar ti n1 l1 s2 a2 s3 a3 n2 l2 cG cS cJ1 cS2 cS3 cJ2 xo7 gg7 gr7 ce7 tr7 sh7 ar7 ti7 n17 l17 s27 a27 s37 a37 n27 l27 cG7 cS7 cJ17 cS27 cS37 cJ27 no mo wdo cto pao nmo dpo kio np mp wdp ctp pap nmp dpp kip H locs) {a : Nat} {x9 : Int32} (ha : a < 2 ^ 64) (hls : ls.size = 13) (hc9 : cells + 3 ≤ 1019453) (hs9 : slots + 20 ≤ 6043265)
    (kk : ∀ (r : Int32) (H1 : Heap) (locs1 : List Loc), ((r = (-99999) ∧ (¬ (gw a ∧ nI 1 ≤ x9 ∧ x9 ≤ nI 1000) ∨ ((gw a ∧ nI 1 ≤ x9 ∧ x9 ≤ nI 1000) ∧ ((ffi (fun k => decide (wdo k = a)) no = none ∧ no = 40) ∨ ∃ i, ffi (fun k => decide (wdo k = a)) no = some i ∧ 1000000 < cto i + kz x9))) ∧ LWS D s A xo gg gr ce tr sh ar ti n1 l1 s2 a2 s3 a3 n2 l2 cG cS cJ1 cS2 cS3 cJ2 xo7 gg7 gr7 ce7 tr7 sh7 ar7 ti7 n17 l17 s27 a27 s37 a37 n27 l27 cG7 cS7 cJ17 cS27 cS37 cJ27 no mo wdo cto pao nmo dpo kio np mp wdp ctp pap nmp dpp kip H1 locs1) ∨ ((gw a ∧ nI 1 ≤ x9 ∧ x9 ≤ nI 1000) ∧ ∃ (nq mq : Nat) (wdq ctq : Nat → Nat) (paq : Nat → Option Nat) (nmq dpq kiq : Nat → Nat), ADD no mo wdo cto pao nmo dpo kio a (kz x9) nq mq wdq ctq paq nmq dpq kiq r ∧ LWS D s A xo gg gr ce tr sh ar ti n1 l1 s2 a2 s3 a3 n2 l2 cG cS cJ1 cS2 cS3 cJ2 xo7 gg7 gr7 ce7 tr7 sh7 ar7 ti7 n17 l17 s27 a27 s37 a37 n27 l27 cG7 cS7 cJ17 cS27 cS37 cJ27 nq mq wdq ctq paq nmq dpq kiq np mp wdp ctp pap nmp dpp kip H1 locs1)) → W p l e room_1 s mi9 #[Value.ref b] belowM methM cM H1 locs1 (cells + 3) (slots + 20) Q (F0 mi9 199 ls [.int r])) : W p l e room_1 s mi9 #[Value.ref b] belowM methM cM H locs cells slots Q (F0 mi9 196 ls [.int x9, .long (lN a), .ref xo]) := by
  obtain ⟨hx, hb, hml, hown, hts, hX, hbl, hbA, hA, hK, hNw, hZ, hXt, hst, hL⟩ := hE
  obtain ⟨X, Y, hO, hO7, hP, hD, hS⟩ := hW
  obtain ⟨ea, wa, ic, lf, pt, fc, f, fN, z1, fk, fr, z3, fs, z2, hXe, hfe, hfk⟩ := hO
  subst hXe
  have hI0 := hI
  obtain ⟨hn40, hg, hwi, hct, hpn, hun, hnm, hnz, hdp, hKN, hSR⟩ := hI0
  have hmn := kn_le hKN hSR
  have hm : mo ≤ 40 := Nat.le_trans hmn hn40
  have hki : ∀ j, j < mo → kio j < no := fun j h => (hKN.1 j h).1
  have hkp : ∀ j, j < mo → 0 < cto (kio j) := fun j h => (hKN.1 j h).2
  have hcb : ∀ k, k < no → cto k < 2 ^ 31 := fun k h => by have := hct k h; omega
  have hmz : ∀ i, i < no → cto i = 0 → mo < no := fun i h h0 => kn_lt hKN hSR h h0
  have hkinj := srt_inj hSR
  have hPX := q_left hP
  have hDX := q_Dl (sz := H.size) hD
  have hF := q_Fl hD hS hA
  refine va_calli (vx_runSW (As := [.ref xo, .long (lN a), .int x9]) (rest := []) ⟨hx, hb, hml, hown, hts⟩ (c_L_add (l := l) (D := D) (xo := xo) (gg := gg) (gr := gr) (ce := ce) (tr := tr) (sh := sh) (ar := ar) (ti := ti) (n1 := n1) (l1 := l1) (s2 := s2) (a2 := a2) (s3 := s3) (a3 := a3) (n2 := n2) (l2 := l2) (cG := cG) (fc := fc) (cS := cS) (f := f) (cJ1 := cJ1) (fN := fN) (z1 := z1) (cS2 := cS2) (fk := fk) (m := mo) (ki := kio) (cS3 := cS3) (fr := fr) (z3 := z3) (cJ2 := cJ2) (fs := fs) (z2 := z2) (ea := ea) (wa := wa) (pf := (fun k => (pao k).map ea)) (cn := nmo) (dp := dpo) (oc := cto) (ic := ic) (lf := lf) (pt := pt) (wd := wdo) (n := no) (pi := pao) (a := a) (x9 := x9) (sz := H.size) (hnd := ow_nd hDX) (hst := hst) (ha := ha) (hfe := hfe) (hn40 := hn40) (hg := hg) (hm := hm) (hf := hfk) (hki := hki) (hob := hct) (hinj := (ow_ei hDX)) (hpi := (fun _ _ => rfl)) (hpn := hpn) (hcb := hnm) (hmn := hmn) (hmz := hmz)) (vx_cwSW 3 hts gL_law_L_add rfl rfl rfl (by decide +kernel) ⟨Nat.le_of_ble_eq_true rfl, Nat.le_of_ble_eq_true rfl⟩) ⟨qWx_blind, qWx_of q_R0 hPX hKo hNw (qZ_at hZ hS (fun q h => hF q h)) hXt⟩ rfl rfl hls rfl (lv_room (Nat.le_of_ble_eq_true rfl)) dL_law_196 ⟨by show _ ≤ 1019453; exact hc9, by show _ ≤ 6043265; exact hs9⟩) hS (fun q _ h => hF q h) hF (fun r u t H1 locs1 ht hvm hw hB1 hz1 hk1 hS1 => ?_)
  obtain ⟨nq, fq, mq, fkq, kiq, fcq, eaq, waq, pfq, cnq, dpq, ocq, icq, lfq, ptq, wdq⟩ := u
  dsimp only at hw hB1
  obtain ⟨hB1, hB3⟩ := hB1
  have hB2 : va_P D vwCl (OW xo gg gr ce tr sh ar ti n1 l1 s2 a2 s3 a3 n2 l2 cG cS cJ1 cS2 cS3 cJ2 nq mq eaq waq pfq cnq dpq ocq icq lfq ptq wdq fcq fq fN z1 fkq fr z3 fs z2) H1 := by rw [← ht]; exact hB1
  have hB4 : va_D (va_A (OW xo gg gr ce tr sh ar ti n1 l1 s2 a2 s3 a3 n2 l2 cG cS cJ1 cS2 cS3 cJ2 no mo ea wa (fun k => (pao k).map ea) nmo dpo cto ic lf pt wdo fc f fN z1 fk fr z3 fs z2) H.size) (OW xo gg gr ce tr sh ar ti n1 l1 s2 a2 s3 a3 n2 l2 cG cS cJ1 cS2 cS3 cJ2 nq mq eaq waq pfq cnq dpq ocq icq lfq ptq wdq fcq fq fN z1 fkq fr z3 fs z2) := hB3
  obtain ⟨hP1, hD1⟩ := q_beside hP hD hk1 hF hB2 hB4
  refine kk r H1 locs1 ?_
  rcases hw with ⟨e0, hth, g1, g2, g3, g4, g5, g6, g7, g8, g9, g10, g11, g12⟩ | ⟨hok, hcase⟩
  · refine Or.inl ⟨e0, hth, ⟨_, Y, ⟨ea, wa, icq, lfq, ptq, fcq, f, fN, z1, fk, fr, z3, fs, z2, ?_, hfe, hfk⟩, hO7, hP1, hD1, hS1⟩⟩
    rw [g1, g2, g3, g4, g6, g7, g8, g9, g10, g11, g12]
  · obtain ⟨wd', ct', pa', nm', dp', h1, h2⟩ := obj_add (xo := xo) (gg := gg) (gr := gr) (ce := ce) (tr := tr) (sh := sh) (ar := ar) (ti := ti) (n1 := n1) (l1 := l1) (s2 := s2) (a2 := a2) (s3 := s3) (a3 := a3) (n2 := n2) (l2 := l2) (cG := cG) (cS := cS) (cJ1 := cJ1) (cS2 := cS2) (cS3 := cS3) (cJ2 := cJ2) (fN := fN) (z1 := z1) (fr := fr) (z3 := z3) (fs := fs) (z2 := z2) (waq := waq) (icq := icq) (lfq := lfq) (ptq := ptq) (fcq := fcq) hI hfe hfk hcase
    exact Or.inr ⟨hok, nq, mq, wd', ct', pa', nm', dp', kiq, h1, ⟨_, Y, h2, hO7, hP1, hD1, hS1⟩⟩

set_option maxHeartbeats 4000000 in
set_option maxRecDepth 100000 in
theorem lw_alike {p : Program} {l : Launch} {e : Env} {s : State} {mi9 : MethodId} {belowM : List Frame} {methM : Method} {cM : Code} {Q : State → Prop} {D : va_G} {A : Nat → Prop} {b L : Nat} {xs : Nat → Int32} {xo gg gr ce tr sh ar ti n1 l1 s2 a2 s3 a3 n2 l2 : Nat} {cG cS cJ1 cS2 cS3 cJ2 : ClassId} {xo7 gg7 gr7 ce7 tr7 sh7 ar7 ti7 n17 l17 s27 a27 s37 a37 n27 l27 : Nat} {cG7 cS7 cJ17 cS27 cS37 cJ27 : ClassId} {no mo : Nat} {wdo cto : Nat → Nat} {pao : Nat → Option Nat} {nmo dpo kio : Nat → Nat} {H : Heap} {locs : List Loc} {ls : Array Slot} {cells slots : Nat} {tys : List (ClassId × FieldType)} (hE : LWE p l s mi9 cM D A b L xs tys) (hKo : va_K D vwCl [(cG, .int), (cS, .object "FuzzyFens$Entry"), (cJ1, .long), (cS2, .object "FuzzyFens$Entry"), (cS3, .object "FuzzyFens$Entry"), (cJ2, .long), (cG7, .int), (cS7, .object "FuzzyFens$Entry"), (cJ17, .long), (cS27, .object "FuzzyFens$Entry"), (cS37, .object "FuzzyFens$Entry"), (cJ27, .long)] s) (hI : INV no wdo cto pao nmo dpo kio mo) (hB : BK no wdo pao nmo) (hW : LWS D s A xo gg gr ce tr sh ar ti n1 l1 s2 a2 s3 a3 n2 l2 cG cS cJ1 cS2 cS3 cJ2 xo7 gg7 gr7 ce7 tr7 sh7 ar7 ti7 n17 l17 s27 a27 s37 a37 n27 l27 cG7 cS7 cJ17 cS27 cS37 cJ27 no mo wdo cto pao nmo dpo kio no mo wdo cto pao nmo dpo kio H locs)  (hls : ls.size = 13) (hc9 : cells + 328 ≤ 1019453) (hs9 : slots + 1968 ≤ 6043265)
    (kk : ∀ (H1 : Heap) (locs1 : List Loc), LWS D s A xo gg gr ce tr sh ar ti n1 l1 s2 a2 s3 a3 n2 l2 cG cS cJ1 cS2 cS3 cJ2 xo7 gg7 gr7 ce7 tr7 sh7 ar7 ti7 n17 l17 s27 a27 s37 a37 n27 l27 cG7 cS7 cJ17 cS27 cS37 cJ27 no mo wdo cto pao nmo dpo kio no mo wdo cto pao nmo dpo kio H1 locs1 → W p l e room_1 s mi9 #[Value.ref b] belowM methM cM H1 locs1 (cells + 328) (slots + 1968) Q (F0 mi9 209 ls [.int (nI 1)])) : W p l e room_1 s mi9 #[Value.ref b] belowM methM cM H locs cells slots Q (F0 mi9 206 ls [.ref xo7, .ref xo]) := by
  obtain ⟨hx, hb, hml, hown, hts, hX, hbl, hbA, hA, hK, hNw, hZ, hXt, hst, hL⟩ := hE
  obtain ⟨X, Y, hO, hO7, hP, hD, hS⟩ := hW
  obtain ⟨ea, wa, ic, lf, pt, fc, f, fN, z1, fk, fr, z3, fs, z2, hXe, hfe, hfk⟩ := hO
  subst hXe
  have hI0 := hI
  obtain ⟨hn40, hg, hwi, hct, hpn, hun, hnm, hnz, hdp, hKN, hSR⟩ := hI0
  have hmn := kn_le hKN hSR
  have hm : mo ≤ 40 := Nat.le_trans hmn hn40
  have hki : ∀ j, j < mo → kio j < no := fun j h => (hKN.1 j h).1
  have hkp : ∀ j, j < mo → 0 < cto (kio j) := fun j h => (hKN.1 j h).2
  have hcb : ∀ k, k < no → cto k < 2 ^ 31 := fun k h => by have := hct k h; omega
  have hmz : ∀ i, i < no → cto i = 0 → mo < no := fun i h h0 => kn_lt hKN hSR h h0
  have hkinj := srt_inj hSR
  have hPX := q_left hP
  have hDX := q_Dl (sz := H.size) hD
  have hF := q_Fl hD hS hA
  obtain ⟨ea7, wa7, ic7, lf7, pt7, fc7, f7, fN7, z17, fk7, fr7, z37, fs7, z27, hYe, hfe7, hfk7⟩ := hO7
  subst hYe
  have hPY := q_right hP
  have hPX1 : va_P D vwCl ([(xo, .inr (8, [.ref gg, .ref tr, .ref ti, .ref s2, .ref s3, .ref n2])), (gg, .inr (1, [.ref gr])), (gr, .inr (2, [.ref ce])), (ce, .inl (cG, 121, .inl fc)), (tr, .inr (5, [.ref sh])), (sh, .inr (4, [.ref ar, .int (nI no)])), (ar, .inl (cS, 40, .inr (.inr (.inr (.inr f))))), (ti, .inr (6, [.ref n1])), (n1, .inr (3, [.ref l1, .int z1])), (l1, .inl (cJ1, 401, .inr (.inl fN))), (s2, .inr (4, [.ref a2, .int (nI mo)])), (a2, .inl (cS2, 40, .inr (.inr (.inr (.inr fk))))), (s3, .inr (4, [.ref a3, .int z3])), (a3, .inl (cS3, 40, .inr (.inr (.inr (.inr fr))))), (n2, .inr (3, [.ref l2, .int z2])), (l2, .inl (cJ2, 56, .inr (.inl fs)))] ++ (EW ea wa (fun k => (pao k).map ea) nmo dpo cto ic lf pt no ++ WW wa wdo no)) H := hPX
  have hPY1 : va_P D vwCl ([(xo7, .inr (8, [.ref gg7, .ref tr7, .ref ti7, .ref s27, .ref s37, .ref n27])), (gg7, .inr (1, [.ref gr7])), (gr7, .inr (2, [.ref ce7])), (ce7, .inl (cG7, 121, .inl fc7)), (tr7, .inr (5, [.ref sh7])), (sh7, .inr (4, [.ref ar7, .int (nI no)])), (ar7, .inl (cS7, 40, .inr (.inr (.inr (.inr f7))))), (ti7, .inr (6, [.ref n17])), (n17, .inr (3, [.ref l17, .int z17])), (l17, .inl (cJ17, 401, .inr (.inl fN7))), (s27, .inr (4, [.ref a27, .int (nI mo)])), (a27, .inl (cS27, 40, .inr (.inr (.inr (.inr fk7))))), (s37, .inr (4, [.ref a37, .int z37])), (a37, .inl (cS37, 40, .inr (.inr (.inr (.inr fr7))))), (n27, .inr (3, [.ref l27, .int z27])), (l27, .inl (cJ27, 56, .inr (.inl fs7)))] ++ (EW ea7 wa7 (fun k => (pao k).map ea7) nmo dpo cto ic7 lf7 pt7 no ++ WW wa7 wdo no)) H := hPY
  have hF0 : ∀ q, va_A [] H.size q → A q := fun q h => hA q (Nat.le_trans hS.1 (q_A0 q h))
  have hnd : (([] : List Nat) ++ ([xo, tr, sh, ar, s2, a2, xo7, tr7, sh7, ar7, s27, a27] ++ ((rg ea no ++ rg wa no) ++ (rg ea7 no ++ rg wa7 no)))).Nodup := by
    have h := q_nodD hD
    rw [List.map_append, ow_fst, ow_fst] at h
    have hp : List.Perm (([xo, gg, gr, ce, tr, sh, ar, ti, n1, l1, s2, a2, s3, a3, n2, l2] ++ (rg ea no ++ rg wa no)) ++ ([xo7, gg7, gr7, ce7, tr7, sh7, ar7, ti7, n17, l17, s27, a27, s37, a37, n27, l27] ++ (rg ea7 no ++ rg wa7 no))) ([xo, gg, gr, ce, tr, sh, ar, ti, n1, l1, s2, a2, s3, a3, n2, l2, xo7, gg7, gr7, ce7, tr7, sh7, ar7, ti7, n17, l17, s27, a27, s37, a37, n27, l27] ++ ((rg ea no ++ rg wa no) ++ (rg ea7 no ++ rg wa7 no))) := q_four
    exact q_ndt (a := []) (b := [xo, gg, gr, ce, tr, sh, ar, ti, n1, l1, s2, a2, s3, a3, n2, l2, xo7, gg7, gr7, ce7, tr7, sh7, ar7, ti7, n17, l17, s27, a27, s37, a37, n27, l27]) (a' := []) (b' := [xo, tr, sh, ar, s2, a2, xo7, tr7, sh7, ar7, s27, a27]) (hp.nodup_iff.mp h) [0, 4, 5, 6, 10, 11, 16, 20, 21, 22, 26, 27] rfl rfl
  have hR : va_P D vwCl (([(xo, .inr (8, [.ref gg, .ref tr, .ref ti, .ref s2, .ref s3, .ref n2])), (tr, .inr (5, [.ref sh])), (sh, .inr (4, [.ref ar, .int (nI no)])), (ar, .inl (cS, 40, .inr (.inr (.inr (.inr f))))), (s2, .inr (4, [.ref a2, .int (nI mo)])), (a2, .inl (cS2, 40, .inr (.inr (.inr (.inr fk))))), (xo7, .inr (8, [.ref gg7, .ref tr7, .ref ti7, .ref s27, .ref s37, .ref n27])), (tr7, .inr (5, [.ref sh7])), (sh7, .inr (4, [.ref ar7, .int (nI no)])), (ar7, .inl (cS7, 40, .inr (.inr (.inr (.inr f7))))), (s27, .inr (4, [.ref a27, .int (nI mo)])), (a27, .inl (cS27, 40, .inr (.inr (.inr (.inr fk7)))))]) ++ ((EW ea wa (fun k => (pao k).map ea) nmo dpo cto ic lf pt no ++ WW wa wdo no) ++ (EW ea7 wa7 (fun k => (pao k).map ea7) nmo dpo cto ic7 lf7 pt7 no ++ WW wa7 wdo no))) H :=
    va_P.app (va_P.app (hPX1.sub (ws' := [(xo, .inr (8, [.ref gg, .ref tr, .ref ti, .ref s2, .ref s3, .ref n2])), (tr, .inr (5, [.ref sh])), (sh, .inr (4, [.ref ar, .int (nI no)])), (ar, .inl (cS, 40, .inr (.inr (.inr (.inr f))))), (s2, .inr (4, [.ref a2, .int (nI mo)])), (a2, .inl (cS2, 40, .inr (.inr (.inr (.inr fk)))))]) [0, 4, 5, 6, 10, 11] rfl) (hPY1.sub (ws' := [(xo7, .inr (8, [.ref gg7, .ref tr7, .ref ti7, .ref s27, .ref s37, .ref n27])), (tr7, .inr (5, [.ref sh7])), (sh7, .inr (4, [.ref ar7, .int (nI no)])), (ar7, .inl (cS7, 40, .inr (.inr (.inr (.inr f7))))), (s27, .inr (4, [.ref a27, .int (nI mo)])), (a27, .inl (cS27, 40, .inr (.inr (.inr (.inr fk7)))))]) [0, 4, 5, 6, 10, 11] rfl)) (va_P.app (q_right hPX1) (q_right hPY1))
  have hK9 : va_K D vwCl [(cS, .object "FuzzyFens$Entry"), (cS2, .object "FuzzyFens$Entry"), (cS7, .object "FuzzyFens$Entry"), (cS27, .object "FuzzyFens$Entry")] s := hKo.sub (tys' := [(cS, .object "FuzzyFens$Entry"), (cS2, .object "FuzzyFens$Entry"), (cS7, .object "FuzzyFens$Entry"), (cS27, .object "FuzzyFens$Entry")]) [1, 3, 7, 9] rfl
  refine va_calli (va_runS (As := [.ref xo, .ref xo7]) (rest := []) ⟨hx, hb, hml, hown, hts⟩ (c_L_areAlike (l := l) (D := D) (xo := xo) (gg := gg) (gr := gr) (ce := ce) (tr := tr) (sh := sh) (ar := ar) (ti := ti) (n1 := n1) (l1 := l1) (s2 := s2) (a2 := a2) (s3 := s3) (a3 := a3) (n2 := n2) (l2 := l2) (cS := cS) (f := f) (cS2 := cS2) (fk := fk) (m := mo) (ki := kio) (ea := ea) (wa := wa) (pf := (fun k => (pao k).map ea)) (cn := nmo) (dp := dpo) (oc := cto) (ic := ic) (lf := lf) (pt := pt) (wd := wdo) (n := no) (pi := pao) (xo7 := xo7) (gg7 := gg7) (gr7 := gr7) (ce7 := ce7) (tr7 := tr7) (sh7 := sh7) (ar7 := ar7) (ti7 := ti7) (n17 := n17) (l17 := l17) (s27 := s27) (a27 := a27) (s37 := s37) (a37 := a37) (n27 := n27) (l27 := l27) (cS7 := cS7) (f7 := f7) (cS27 := cS27) (fk7 := fk7) (ea7 := ea7) (wa7 := wa7) (pf7 := (fun k => (pao k).map ea7)) (ic7 := ic7) (lf7 := lf7) (pt7 := pt7) (sz := H.size) (hnd := hnd) (hst := hst) (hm := hm) (hf := hfk) (hki := hki) (hfe := hfe) (hn40 := hn40) (hg := hg) (hwi := hwi) (hob := hct) (hpi := (fun _ _ => rfl)) (hpn := hpn) (hf7 := hfk7) (hfe7 := hfe7) (hpi7 := (fun _ _ => rfl))) (va_cwS 2 hts gL_law_L_areAlike rfl rfl rfl (by decide +kernel) ⟨Nat.le_of_ble_eq_true rfl, Nat.le_of_ble_eq_true rfl⟩) ⟨qWx_blind, qWx_of hR q_R0 hK9 hNw (qZ_at hZ hS (fun q h => hF0 q h)) hXt⟩ rfl rfl hls rfl (lv_room (Nat.le_of_ble_eq_true rfl)) dL_law_206 ⟨by show _ ≤ 1019453; exact hc9, by show _ ≤ 6043265; exact hs9⟩) hS (fun q _ h => hF0 q h) hF0 (fun r u t H1 locs1 ht hvm hw hB1 hz1 hk1 hS1 => ?_)
  have hr1 : r = nI 1 := hw
  subst hr1
  exact kk H1 locs1 ⟨_, _, ⟨ea, wa, ic, lf, pt, fc, f, fN, z1, fk, fr, z3, fs, z2, rfl, hfe, hfk⟩, ⟨ea7, wa7, ic7, lf7, pt7, fc7, f7, fN7, z17, fk7, fr7, z37, fs7, z27, rfl, hfe7, hfk7⟩, q_keepP hP hk1 q_A0, hD, hS1⟩

set_option maxHeartbeats 4000000 in
set_option maxRecDepth 100000 in
theorem lw_so {p : Program} {l : Launch} {e : Env} {s : State} {mi9 : MethodId} {belowM : List Frame} {methM : Method} {cM : Code} {Q : State → Prop} {D : va_G} {A : Nat → Prop} {b L : Nat} {xs : Nat → Int32} {xo gg gr ce tr sh ar ti n1 l1 s2 a2 s3 a3 n2 l2 : Nat} {cG cS cJ1 cS2 cS3 cJ2 : ClassId} {xo7 gg7 gr7 ce7 tr7 sh7 ar7 ti7 n17 l17 s27 a27 s37 a37 n27 l27 : Nat} {cG7 cS7 cJ17 cS27 cS37 cJ27 : ClassId} {no mo : Nat} {wdo cto : Nat → Nat} {pao : Nat → Option Nat} {nmo dpo kio : Nat → Nat} {np mp : Nat} {wdp ctp : Nat → Nat} {pap : Nat → Option Nat} {nmp dpp kip : Nat → Nat} {H : Heap} {locs : List Loc} {ls : Array Slot} {cells slots : Nat} {tys : List (ClassId × FieldType)} (hE : LWE p l s mi9 cM D A b L xs tys) (hKo : va_K D vwCl [(cG, .int), (cS, .object "FuzzyFens$Entry"), (cJ1, .long), (cS2, .object "FuzzyFens$Entry"), (cS3, .object "FuzzyFens$Entry"), (cJ2, .long)] s) (hI : INV no wdo cto pao nmo dpo kio mo) (hB : BK no wdo pao nmo) (hW : LWS D s A xo gg gr ce tr sh ar ti n1 l1 s2 a2 s3 a3 n2 l2 cG cS cJ1 cS2 cS3 cJ2 xo7 gg7 gr7 ce7 tr7 sh7 ar7 ti7 n17 l17 s27 a27 s37 a37 n27 l27 cG7 cS7 cJ17 cS27 cS37 cJ27 no mo wdo cto pao nmo dpo kio np mp wdp ctp pap nmp dpp kip H locs)  (hls : ls.size = 13) (hc9 : cells + 648 ≤ 1019453) (hs9 : slots + 3888 ≤ 6043265)
    (kk : ∀ (H1 : Heap) (locs1 : List Loc), LWS D s A xo gg gr ce tr sh ar ti n1 l1 s2 a2 s3 a3 n2 l2 cG cS cJ1 cS2 cS3 cJ2 xo7 gg7 gr7 ce7 tr7 sh7 ar7 ti7 n17 l17 s27 a27 s37 a37 n27 l27 cG7 cS7 cJ17 cS27 cS37 cJ27 no mo wdo cto pao nmo dpo kio np mp wdp ctp pap nmp dpp kip H1 locs1 → W p l e room_1 s mi9 #[Value.ref b] belowM methM cM H1 locs1 (cells + 648) (slots + 3888) Q (F0 mi9 225 ls [.int (nI 1)])) : W p l e room_1 s mi9 #[Value.ref b] belowM methM cM H locs cells slots Q (F0 mi9 222 ls [.ref xo]) := by
  obtain ⟨hx, hb, hml, hown, hts, hX, hbl, hbA, hA, hK, hNw, hZ, hXt, hst, hL⟩ := hE
  obtain ⟨X, Y, hO, hO7, hP, hD, hS⟩ := hW
  obtain ⟨ea, wa, ic, lf, pt, fc, f, fN, z1, fk, fr, z3, fs, z2, hXe, hfe, hfk⟩ := hO
  subst hXe
  have hI0 := hI
  obtain ⟨hn40, hg, hwi, hct, hpn, hun, hnm, hnz, hdp, hKN, hSR⟩ := hI0
  have hmn := kn_le hKN hSR
  have hm : mo ≤ 40 := Nat.le_trans hmn hn40
  have hki : ∀ j, j < mo → kio j < no := fun j h => (hKN.1 j h).1
  have hkp : ∀ j, j < mo → 0 < cto (kio j) := fun j h => (hKN.1 j h).2
  have hcb : ∀ k, k < no → cto k < 2 ^ 31 := fun k h => by have := hct k h; omega
  have hmz : ∀ i, i < no → cto i = 0 → mo < no := fun i h h0 => kn_lt hKN hSR h h0
  have hkinj := srt_inj hSR
  have hPX := q_left hP
  have hDX := q_Dl (sz := H.size) hD
  have hF := q_Fl hD hS hA
  refine va_calli (va_runS (As := [.ref xo]) (rest := []) ⟨hx, hb, hml, hown, hts⟩ (c_L_areWordsSo (l := l) (D := D) (xo := xo) (gg := gg) (gr := gr) (ce := ce) (tr := tr) (sh := sh) (ar := ar) (ti := ti) (n1 := n1) (l1 := l1) (s2 := s2) (a2 := a2) (s3 := s3) (a3 := a3) (n2 := n2) (l2 := l2) (cG := cG) (fc := fc) (cS := cS) (f := f) (cJ1 := cJ1) (fN := fN) (z1 := z1) (cS2 := cS2) (fk := fk) (m := mo) (ki := kio) (cS3 := cS3) (fr := fr) (z3 := z3) (cJ2 := cJ2) (fs := fs) (z2 := z2) (ea := ea) (wa := wa) (pf := (fun k => (pao k).map ea)) (cn := nmo) (dp := dpo) (oc := cto) (ic := ic) (lf := lf) (pt := pt) (wd := wdo) (n := no) (pi := pao) (sz := H.size) (hnd := ow_nd hDX) (hst := hst) (hm := hm) (hf := hfk) (hki := hki) (hfe := hfe) (hn40 := hn40) (hg := hg) (hwi := hwi) (hob := hct) (hpi := (fun _ _ => rfl)) (hpn := hpn) (hmn := hmn) (hkp := hkp) (hsr := hSR) (hdp := hdp) (hdb := (inv_dp hI))) (va_cwS 1 hts gL_law_L_areWordsSo rfl rfl rfl (by decide +kernel) ⟨Nat.le_of_ble_eq_true rfl, Nat.le_of_ble_eq_true rfl⟩) ⟨qWx_blind, qWx_of q_R0 hPX hKo hNw (qZ_at hZ hS (fun q h => hF q h)) hXt⟩ rfl rfl hls rfl (lv_room (Nat.le_of_ble_eq_true rfl)) dL_law_222 ⟨by show _ ≤ 1019453; exact hc9, by show _ ≤ 6043265; exact hs9⟩) hS (fun q _ h => hF q h) hF (fun r u t H1 locs1 ht hvm hw hB1 hz1 hk1 hS1 => ?_)
  obtain ⟨fc2, rfl⟩ : ∃ z, z = u := ⟨_, rfl⟩
  have hB2 : va_P D vwCl (OW xo gg gr ce tr sh ar ti n1 l1 s2 a2 s3 a3 n2 l2 cG cS cJ1 cS2 cS3 cJ2 no mo ea wa (fun k => (pao k).map ea) nmo dpo cto ic lf pt wdo fc2 f fN z1 fk fr z3 fs z2) H1 := by rw [← ht]; exact hB1
  have hr1 : r = nI 1 := hw
  subst hr1
  obtain ⟨hP1, hD1⟩ := q_beside hP hD hk1 hF hB2 (q_Dfst (by rw [ow_fst, ow_fst]) hDX)
  exact kk H1 locs1 ⟨_, Y, ⟨ea, wa, ic, lf, pt, fc2, f, fN, z1, fk, fr, z3, fs, z2, rfl, hfe, hfk⟩, hO7, hP1, hD1, hS1⟩

set_option maxHeartbeats 4000000 in
set_option maxRecDepth 100000 in
theorem lw_found {p : Program} {l : Launch} {e : Env} {s : State} {mi9 : MethodId} {belowM : List Frame} {methM : Method} {cM : Code} {Q : State → Prop} {D : va_G} {A : Nat → Prop} {b L : Nat} {xs : Nat → Int32} {xo gg gr ce tr sh ar ti n1 l1 s2 a2 s3 a3 n2 l2 : Nat} {cG cS cJ1 cS2 cS3 cJ2 : ClassId} {xo7 gg7 gr7 ce7 tr7 sh7 ar7 ti7 n17 l17 s27 a27 s37 a37 n27 l27 : Nat} {cG7 cS7 cJ17 cS27 cS37 cJ27 : ClassId} {no mo : Nat} {wdo cto : Nat → Nat} {pao : Nat → Option Nat} {nmo dpo kio : Nat → Nat} {np mp : Nat} {wdp ctp : Nat → Nat} {pap : Nat → Option Nat} {nmp dpp kip : Nat → Nat} {H : Heap} {locs : List Loc} {ls : Array Slot} {cells slots : Nat} {tys : List (ClassId × FieldType)} (hE : LWE p l s mi9 cM D A b L xs tys) (hKo : va_K D vwCl [(cG, .int), (cS, .object "FuzzyFens$Entry"), (cJ1, .long), (cS2, .object "FuzzyFens$Entry"), (cS3, .object "FuzzyFens$Entry"), (cJ2, .long)] s) (hI : INV no wdo cto pao nmo dpo kio mo) (hB : BK no wdo pao nmo) (hW : LWS D s A xo gg gr ce tr sh ar ti n1 l1 s2 a2 s3 a3 n2 l2 cG cS cJ1 cS2 cS3 cJ2 xo7 gg7 gr7 ce7 tr7 sh7 ar7 ti7 n17 l17 s27 a27 s37 a37 n27 l27 cG7 cS7 cJ17 cS27 cS37 cJ27 no mo wdo cto pao nmo dpo kio np mp wdp ctp pap nmp dpp kip H locs) {a k : Nat} (hga : gw a) (hk3 : k ≤ 3) (hls : ls.size = 13) (hc9 : cells + 1461 ≤ 1019453) (hs9 : slots + 8766 ≤ 6043265)
    (kk : ∀ (H1 : Heap) (locs1 : List Loc), LWS D s A xo gg gr ce tr sh ar ti n1 l1 s2 a2 s3 a3 n2 l2 cG cS cJ1 cS2 cS3 cJ2 xo7 gg7 gr7 ce7 tr7 sh7 ar7 ti7 n17 l17 s27 a27 s37 a37 n27 l27 cG7 cS7 cJ17 cS27 cS37 cJ27 no mo wdo cto pao nmo dpo kio np mp wdp ctp pap nmp dpp kip H1 locs1 → W p l e room_1 s mi9 #[Value.ref b] belowM methM cM H1 locs1 (cells + 1461) (slots + 8766) Q (F0 mi9 249 ls [.int (nI 1)])) : W p l e room_1 s mi9 #[Value.ref b] belowM methM cM H locs cells slots Q (F0 mi9 246 ls [.int (nI k), .long (lN a), .ref xo]) := by
  obtain ⟨hx, hb, hml, hown, hts, hX, hbl, hbA, hA, hK, hNw, hZ, hXt, hst, hL⟩ := hE
  obtain ⟨X, Y, hO, hO7, hP, hD, hS⟩ := hW
  obtain ⟨ea, wa, ic, lf, pt, fc, f, fN, z1, fk, fr, z3, fs, z2, hXe, hfe, hfk⟩ := hO
  subst hXe
  have hI0 := hI
  obtain ⟨hn40, hg, hwi, hct, hpn, hun, hnm, hnz, hdp, hKN, hSR⟩ := hI0
  have hmn := kn_le hKN hSR
  have hm : mo ≤ 40 := Nat.le_trans hmn hn40
  have hki : ∀ j, j < mo → kio j < no := fun j h => (hKN.1 j h).1
  have hkp : ∀ j, j < mo → 0 < cto (kio j) := fun j h => (hKN.1 j h).2
  have hcb : ∀ k, k < no → cto k < 2 ^ 31 := fun k h => by have := hct k h; omega
  have hmz : ∀ i, i < no → cto i = 0 → mo < no := fun i h h0 => kn_lt hKN hSR h h0
  have hkinj := srt_inj hSR
  have hPX := q_left hP
  have hDX := q_Dl (sz := H.size) hD
  have hF := q_Fl hD hS hA
  refine va_calli (va_runS (As := [.ref xo, .long (lN a), .int (nI k)]) (rest := []) ⟨hx, hb, hml, hown, hts⟩ (c_L_isFound (l := l) (D := D) (xo := xo) (gg := gg) (gr := gr) (ce := ce) (tr := tr) (sh := sh) (ar := ar) (ti := ti) (n1 := n1) (l1 := l1) (s2 := s2) (a2 := a2) (s3 := s3) (a3 := a3) (n2 := n2) (l2 := l2) (cG := cG) (fc := fc) (cS := cS) (f := f) (cJ1 := cJ1) (fN := fN) (z1 := z1) (cS2 := cS2) (fk := fk) (m := mo) (ki := kio) (cS3 := cS3) (fr := fr) (z3 := z3) (cJ2 := cJ2) (fs := fs) (z2 := z2) (ea := ea) (wa := wa) (pf := (fun k => (pao k).map ea)) (cn := nmo) (dp := dpo) (oc := cto) (ic := ic) (lf := lf) (pt := pt) (wd := wdo) (n := no) (pi := pao) (a := a) (k := k) (sz := H.size) (hnd := ow_nd hDX) (hst := hst) (hga := hga) (ha64 := (by have := gw_lt hga; omega)) (hk3 := hk3) (hm := hm) (hf := hfk) (hki := hki) (hfe := hfe) (hn40 := hn40) (hg := hg) (hwi := hwi) (hob := hct) (hob31 := hcb) (hpi := (fun _ _ => rfl)) (hpn := hpn) (hmn := hmn) (hKN := hKN) (hsr := hSR) (hcb := hnm) (hBK := hB)) (va_cwS 3 hts gL_law_L_isFound rfl rfl rfl (by decide +kernel) ⟨Nat.le_of_ble_eq_true rfl, Nat.le_of_ble_eq_true rfl⟩) ⟨qWx_blind, qWx_of q_R0 hPX hKo hNw (qZ_at hZ hS (fun q h => hF q h)) hXt⟩ rfl rfl hls rfl (lv_room (Nat.le_of_ble_eq_true rfl)) dL_law_246 ⟨by show _ ≤ 1019453; exact hc9, by show _ ≤ 6043265; exact hs9⟩) hS (fun q _ h => hF q h) hF (fun r u t H1 locs1 ht hvm hw hB1 hz1 hk1 hS1 => ?_)
  obtain ⟨z4, fN2, fc2, r3, fr2, z5, fs2, ic2, lf2, pt2⟩ := u
  dsimp only at hw hB1
  have hB2 : va_P D vwCl (OW xo gg gr ce tr sh ar ti n1 l1 s2 a2 s3 a3 n2 l2 cG cS cJ1 cS2 cS3 cJ2 no mo ea wa (fun k => (pao k).map ea) nmo dpo cto ic2 lf2 pt2 wdo fc2 f fN2 z4 fk fr2 r3 fs2 z5) H1 := by rw [← ht]; exact hB1
  have hr1 : r = nI 1 := hw
  subst hr1
  obtain ⟨hP1, hD1⟩ := q_beside hP hD hk1 hF hB2 (q_Dfst (by rw [ow_fst, ow_fst]) hDX)
  exact kk H1 locs1 ⟨_, Y, ⟨ea, wa, ic2, lf2, pt2, fc2, f, fN2, z4, fk, fr2, r3, fs2, z5, rfl, hfe, hfk⟩, hO7, hP1, hD1, hS1⟩
