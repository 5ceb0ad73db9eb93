/-! what the class's own loops count -/
theorem i_tri (x : Int32) (m : Nat) : x < 0 ∨ nI m ≤ x ∨ (0 ≤ x ∧ x < nI m) := by
  rw [Int32.lt_iff_toInt_lt, Int32.le_iff_toInt_le, Int32.le_iff_toInt_le, Int32.lt_iff_toInt_lt]; omega
theorem kz_lt {x : Int32} {m : Nat} (hm : m < 2 ^ 31) (h0 : 0 ≤ x) (h : x < nI m) : kz x < m := by
  rw [kz_of h0] at h; exact (nI_ltI (kz_31 x) hm).mp h
/-- the ranked ones of a row of known words: how many, and which -/
def rkf (wd oc ki : Nat → Nat) (v k : Nat) : Nat → Nat × (Nat → Nat)
  | 0 => (0, fun _ => 0)
  | i + 1 => if dst wd v (ki i) ≤ k then ((rkf wd oc ki v k i).1 + 1, insF (rkf wd oc ki v k i).2 (cnt (fun j => decide (rkb (pzf wd v) oc wd ((rkf wd oc ki v k i).2 j) (ki i))) (rkf wd oc ki v k i).1) (ki i)) else rkf wd oc ki v k i
def rkc (wd oc ki : Nat → Nat) (v k i : Nat) : Nat := (rkf wd oc ki v k i).1
def rko (wd oc ki : Nat → Nat) (v k i : Nat) : Nat → Nat := (rkf wd oc ki v k i).2
theorem rkc_s {wd oc ki : Nat → Nat} {v k i : Nat} (h : dst wd v (ki i) ≤ k) : rkc wd oc ki v k (i + 1) = rkc wd oc ki v k i + 1 := by
  show (rkf wd oc ki v k (i + 1)).1 = _
  rw [show rkf wd oc ki v k (i + 1) = _ from if_pos h]; rfl
theorem rkc_k {wd oc ki : Nat → Nat} {v k i : Nat} (h : ¬ dst wd v (ki i) ≤ k) : rkc wd oc ki v k (i + 1) = rkc wd oc ki v k i := by
  show (rkf wd oc ki v k (i + 1)).1 = (rkf wd oc ki v k i).1
  rw [show rkf wd oc ki v k (i + 1) = rkf wd oc ki v k i from if_neg h]
theorem rko_s {wd oc ki : Nat → Nat} {v k i : Nat} (h : dst wd v (ki i) ≤ k) : rko wd oc ki v k (i + 1) = insF (rko wd oc ki v k i) (cnt (fun j => decide (rkb (pzf wd v) oc wd (rko wd oc ki v k i j) (ki i))) (rkc wd oc ki v k i)) (ki i) := by
  show (rkf wd oc ki v k (i + 1)).2 = _
  rw [show rkf wd oc ki v k (i + 1) = _ from if_pos h]; rfl
theorem rko_k {wd oc ki : Nat → Nat} {v k i : Nat} (h : ¬ dst wd v (ki i) ≤ k) : rko wd oc ki v k (i + 1) = rko wd oc ki v k i := by
  show (rkf wd oc ki v k (i + 1)).2 = (rkf wd oc ki v k i).2
  rw [show rkf wd oc ki v k (i + 1) = rkf wd oc ki v k i from if_neg h]
theorem rkc_le (wd oc ki : Nat → Nat) (v k : Nat) : ∀ i, rkc wd oc ki v k i ≤ i := by
  intro i
  induction i with
  | zero => exact Nat.le_refl _
  | succ i ih =>
    by_cases h : dst wd v (ki i) ≤ k
    · rw [rkc_s h]; omega
    · rw [rkc_k h]; omega
theorem pzf_40 {wd : Nat → Nat} {v i : Nat} (hv : wl v ≤ 10) (hi : wl (wd i) ≤ 10) : pzf wd v i ≤ 40 := Nat.le_trans (pr_le _ _ _ _) (by omega)
/-- a row with one put in: of what it is -/
theorem insF_all {f : Nat → Nat} {p x m : Nat} {P : Nat → Prop} (hp : p ≤ m) (h : ∀ j, j < m → P (f j)) (hx : P x) : ∀ j, j < m + 1 → P (insF f p x j) := by
  intro j hj
  unfold insF
  by_cases h1 : j < p
  · rw [if_pos h1]; exact h j (by omega)
  · rw [if_neg h1]
    by_cases h2 : j = p
    · rw [if_pos h2]; exact hx
    · rw [if_neg h2]; exact h _ (by omega)
/-- sequences that are left, as the class lays them -/
def csi (v p : Nat) (L : List Nat) : Nat → List Nat
  | 0 => L
  | q + 1 => ins (csi v p L q) (wo (wo v p) q)
def cso (k v : Nat) : Nat → List Nat
  | 0 => ins [] v
  | p + 1 => if 2 ≤ k then csi v p (ins (cso k v p) (wo v p)) p else ins (cso k v p) (wo v p)
def csq (k v : Nat) : List Nat := cso k v (if 1 ≤ k then wl v else 0)
def csb : Nat → Nat
  | 0 => 1
  | p + 1 => csb p + 1 + p
theorem csi_len (v p : Nat) (L : List Nat) : ∀ q, List.length (csi v p L q) ≤ List.length L + q := by
  intro q
  induction q with
  | zero => exact Nat.le_refl _
  | succ q ih => have := ins_len (csi v p L q) (wo (wo v p) q); show List.length (ins _ _) ≤ _; omega
theorem cso_len (k v : Nat) : ∀ p, List.length (cso k v p) ≤ csb p := by
  intro p
  induction p with
  | zero => exact ins_len [] v
  | succ p ih =>
    have h1 := ins_len (cso k v p) (wo v p)
    have h2 := csi_len v p (ins (cso k v p) (wo v p)) p
    unfold cso
    show _ ≤ csb p + 1 + p
    split <;> omega
theorem csb_46 : ∀ p, p < 10 → csb p ≤ 46 ∧ csb p + 1 + p ≤ 56 := by decide
theorem csi_bnd {v p : Nat} {L : List Nat} {b : Nat} (hb : wo v p < b) (h : ∀ j, j < List.length L → List.getD L j 0 < b) : ∀ q, ∀ j, j < List.length (csi v p L q) → List.getD (csi v p L q) j 0 < b := by
  intro q
  induction q with
  | zero => exact h
  | succ q ih => exact ins_bnd ih (Nat.lt_of_le_of_lt wo_lt hb)
theorem cso_bnd {k v b : Nat} (hb : v < b) : ∀ p, ∀ j, j < List.length (cso k v p) → List.getD (cso k v p) j 0 < b := by
  intro p
  induction p with
  | zero => exact ins_bnd (fun j hj => absurd hj (Nat.not_lt_zero _)) hb
  | succ p ih =>
    have hw : wo v p < b := Nat.lt_of_le_of_lt wo_lt hb
    unfold cso
    split
    · exact csi_bnd hw (ins_bnd ih hw) p
    · exact ins_bnd ih hw
/-- the nearest of a row of known words -/
def nrk (wd ki : Nat → Nat) (v : Nat) : Nat → Option Nat
  | 0 => none
  | i + 1 => match nrk wd ki v i with
    | none => some (dst wd v (ki i))
    | some e => some (min e (dst wd v (ki i)))
theorem nrk_n {wd ki : Nat → Nat} {v i : Nat} (h : nrk wd ki v i = none) : nrk wd ki v (i + 1) = some (dst wd v (ki i)) := by
  show (match nrk wd ki v i with | none => _ | some e => _) = _; rw [h]
theorem nrk_s {wd ki : Nat → Nat} {v i e : Nat} (h : nrk wd ki v i = some e) : nrk wd ki v (i + 1) = some (min e (dst wd v (ki i))) := by
  show (match nrk wd ki v i with | none => _ | some e => _) = _; rw [h]
theorem nrk_lt {wd ki : Nat → Nat} {v : Nat} : ∀ {i : Nat}, (∀ j, j < i → dst wd v (ki j) ≤ 20) → ∀ e, nrk wd ki v i = some e → e ≤ 20 := by
  intro i
  induction i with
  | zero => intro _ e h; exact nomatch h
  | succ i ih =>
    intro h e he
    cases h9 : nrk wd ki v i with
    | none => rw [nrk_n h9] at he; cases he; exact h i (by omega)
    | some e9 => rw [nrk_s h9] at he; have := ih (fun j hj => h j (by omega)) e9 h9; cases he; omega
abbrev cdk (wd : Nat → Nat) (v k i : Nat) : Prop := max (wl (wd i)) (wl v) ≤ lcs (ltz (wd i)) (ltz v) (wl (wd i)) (wl v) + k
/-! ===== BEGIN .. of methods that hand back an object of the pool ===== -/
section
variable {p : Program} {l : Launch} {e : Env} {R : Room} {s : State} {m : MethodId} {args : Array Value} {below : List Frame} {meth : Method} {c : Code} {H : Heap} {locs : List Loc} {cells slots : Nat} {Q : State → Prop}
variable {mc ms : Nat} {free : Addr → Prop} {A0 A1 : Nat → Prop} {H0 : Heap} {a : Array Value} {pc : Nat} {ls : Array Slot} {st0 rest : List Value}
theorem vx_callq {S SX : Type} {post : Option Nat → S → Prop} {px : SX → Prop} {B : S → State → Prop} {BX : String → SX → State → Prop} {AX : Nat → Prop} (hr : vx_Run p l e R s m args below meth c H locs cells slots mc ms (F0 m pc ls st0) rest (va_Qq post B A1 a) (vx_X px BX AX) free) (hS : va_S A0 H0 H locs) (hA : ∀ q, q < H.size → A1 q → A0 q) (hf : ∀ q, free q → A0 q) (hAX : ∀ q, q < H.size → AX q → A0 q)
    (kx : ∀ (E : String) (ce : Cell) (q9 : Addr) (u : SX) (t : State) (H1 : Heap) (locs1 : List Loc), t.heap = H1 → s.vm.Alike t.vm → px u → BX E u t → H.size ≤ H1.size → (∀ q : Nat, q < H.size → ¬ AX q → H1[q]? = H[q]?) → va_S A0 H0 H1 locs1 → H1[q9]? = some ce → ce.vm = .none → s.vm.findClass E = some ce.cls → vx_W p l e R s m args below meth c H1 locs1 (cells + mc) (slots + ms) Q (F0 m pc ls rest) q9)
    (kk : ∀ (r : Option Nat) (u : S) (t : State) (H1 : Heap) (locs1 : List Loc), t.heap = H1 → s.vm.Alike t.vm → post r u → B u t → H.size ≤ H1.size → (∀ q : Nat, q < H.size → ¬ A1 q → H1[q]? = H[q]?) → va_S A0 H0 H1 locs1 → W p l e R s m args below meth c H1 locs1 (cells + mc) (slots + ms) Q (F0 m (pc + 3) ls (va_rf r :: rest))) : W p l e R s m args below meth c H locs cells slots Q (F0 m pc ls st0) := by
  intro T hT X
  rcases hr T hT X with ⟨v, st₀, t, T', L, h0, X', hL, e1, e2, ⟨⟨r, u, hv, hp, hb⟩, hF⟩, st⟩ | ⟨q, st₀, t, T', L, E, ce, h0, X', hL, e1, e2, ⟨u, hp, hb, hF⟩, hce, hcv, hcl, st⟩
  · cases hv
    obtain ⟨k1, k2, k3⟩ := vx_keep h0 e1 hS hA hf hL hF
    obtain ⟨t2, a1, b1⟩ := kk r u t T'.heap (locs ++ L) e1.symm (by rw [← e2]; exact X'.warmed.alike) hp hb k1 k2 k3 T' rfl X'
    exact ⟨t2, st t2 a1, b1⟩
  · obtain ⟨k1, k2, k3⟩ := vx_keep h0 e1 hS hAX hf hL hF
    obtain ⟨t2, a1, b1⟩ := kx E ce q u t T'.heap (locs ++ L) e1.symm (by rw [← e2]; exact X'.warmed.alike) hp hb k1 k2 k3 (by rw [e1]; exact hce) hcv hcl T' rfl X'
    exact ⟨t2, st.trans a1, b1⟩
end
