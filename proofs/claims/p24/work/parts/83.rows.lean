/-! own rows of this statement: loops that make, shifts, remainders, what a callee made of one object beside another -/
section QC
variable {p : Program} {l : Launch} {e : Env} {R : Room} {s : State} {m : MethodId} {args : Array Value} {below : List Frame} {meth : Method} {c : Code} {H : Heap} {locs : List Loc} {cells slots : Nat} {Q : State → Prop} {pc : Nat} {ls : Array Slot} {rest : List Value}
/-- a loop that makes cells in each turn -/
theorem q_loopC {σ : Type} (I : σ → Heap → List Loc → Array Slot → Prop) (μ cf sf : σ → Nat) (x0 : σ) (h0 : I x0 H locs ls) (hc : cells ≤ cf x0) (hs : slots ≤ sf x0)
    (step : ∀ (x : σ) (H : Heap) (locs : List Loc) (ls : Array Slot), I x H locs ls → (∀ (y : σ) (H : Heap) (locs : List Loc) (ls : Array Slot) (c2 s2 : Nat), I y H locs ls → μ y < μ x → c2 ≤ cf y → s2 ≤ sf y → W p l e R s m args below meth c H locs c2 s2 Q (F0 m pc ls rest)) → W p l e R s m args below meth c H locs (cf x) (sf x) Q (F0 m pc ls rest)) :
    W p l e R s m args below meth c H locs cells slots Q (F0 m pc ls rest) := by
  have key : ∀ (n : Nat) (x : σ) (H : Heap) (locs : List Loc) (ls : Array Slot) (c2 s2 : Nat), I x H locs ls → μ x < n → c2 ≤ cf x → s2 ≤ sf x → W p l e R s m args below meth c H locs c2 s2 Q (F0 m pc ls rest) := by
    intro n
    induction n with
    | zero => intro x H locs ls c2 s2 _ h; exact absurd h (Nat.not_lt_zero _)
    | succ n ih =>
      intro x H locs ls c2 s2 hI h h1 h2
      refine W.widen (k := cf x) (n := sf x) h1 h2 ?_
      exact step x H locs ls hI (fun y H locs ls c3 s3 hJ hy h3 h4 => ih y H locs ls c3 s3 hJ (by omega) h3 h4)
  exact key _ x0 H locs ls cells slots h0 (Nat.lt_succ_self _) hc hs
end QC
theorem q_sm64 : ∀ k, k < 64 → (((nI k).toInt64 &&& 63).toBitVec.smod 64).toNat = k := by decide +kernel
theorem q_lshr {n k : Nat} (h : n < 2 ^ 63) (hk : k < 64) : lN n >>> ((nI k).toInt64 &&& 63) = lN (n / 2 ^ k) := by
  apply Int64.toInt_inj.mp
  have h2 : n / 2 ^ k ≤ n := Nat.div_le_self _ _
  rw [pk_lT (n := n / 2 ^ k) (by omega)]
  show ((lN n).toBitVec.sshiftRight (((nI k).toInt64 &&& 63).toBitVec.smod 64).toNat).toInt = _
  rw [q_sm64 k hk, BitVec.toInt_sshiftRight]
  show (lN n).toInt >>> k = _
  rw [pk_lT h, Int.shiftRight_eq_div_pow]
  rfl
theorem q_lshr5 {n k e : Nat} (h : n < 2 ^ 63) (hk : k < 64) (he : k = 5 * e) : lN n >>> ((nI k).toInt64 &&& 63) = lN (n / 32 ^ e) := by
  rw [q_lshr h hk, he, p32]
theorem q_and31 (x : Int32) : x &&& nI 2147483647 = nI (x.toBitVec.toNat % 2147483648) := pk_and x 31 (by decide)
theorem q_nz {n : Nat} (h0 : 0 < n) (h : n < 2 ^ 31) : ¬ nI n = 0 := fun h9 => by
  have h7 : (nI n).toInt = (0 : Int32).toInt := congrArg Int32.toInt h9
  rw [nI_toInt h] at h7
  have : (0 : Int32).toInt = 0 := rfl
  omega
/-- an int's lower bits, cut down -/
def lwv (x : Int32) (n : Nat) : Nat := x.toBitVec.toNat % 2147483648 % n
theorem lwv_lt {x : Int32} {n : Nat} (h : 0 < n) : lwv x n < n := Nat.mod_lt _ h
theorem lwv_rem {x : Int32} {n : Nat} (h0 : 0 < n) (h : n < 2 ^ 31) : nI (x.toBitVec.toNat % 2147483648) - nI (x.toBitVec.toNat % 2147483648) / nI n * nI n = nI (lwv x n) := pk_rem (Nat.mod_lt _ (by decide)) h0 h
theorem okd_up {f k : Nat} (h : okd f k = true) : okd (f + 1) k = true := by
  induction f generalizing k with
  | zero => rw [okd_0.mp h]; exact okd_z 1
  | succ f ih =>
    rcases Nat.eq_zero_or_pos k with h1 | h1
    · rw [h1]; exact okd_z _
    · have h2 := (okd_s h1).mp h
      exact (okd_s h1).mpr ⟨h2.1, ih h2.2⟩
theorem okd_to {k a : Nat} : ∀ {d : Nat}, okd k a = true → okd (k + d) a = true := by
  intro d
  induction d with
  | zero => exact fun h => h
  | succ d ih => exact fun h => okd_up (ih h)
theorem okd_10 {k a : Nat} (hk : k ≤ 10) (h : okd k a = true) : okd 10 a = true := by
  have := okd_to (d := 10 - k) h
  rwa [show k + (10 - k) = 10 by omega] at this
/-- one letter more -/
theorem q_letter {k a t : Nat} (h : okd k a = true) (h1 : 1 ≤ t) (h2 : t ≤ 26) : okd (k + 1) (32 * a + t) = true := by
  refine (okd_s (by omega)).mpr ⟨by omega, ?_⟩
  rw [show (32 * a + t) / 32 = a by omega]; exact h
def wdr (z : Int32) (k : Nat) (u : Int64) : Prop := z = 0 → ∃ a, u = lN a ∧ okd k a = true ∧ (0 < k → 0 < a)
theorem wdr_0 {z : Int32} : wdr z 0 (lN 0) := fun _ => ⟨0, rfl, okd_z 0, fun h => h⟩
theorem wdr_s {z x : Int32} {k t : Nat} {u : Int64} (h : wdr z k u) (h1 : 1 ≤ t) (h2 : t ≤ 26) (hx : z = 0 → x = nI t) : wdr z (k + 1) (lN 32 * u + x.toInt64) := by
  intro hz
  obtain ⟨a, e1, e2, e3⟩ := h hz
  refine ⟨32 * a + t, ?_, q_letter e2 h1 h2, fun _ => by omega⟩
  rw [e1, hx hz, nI_l (by omega), lN_mul, lN_add]
theorem wdr_e {z : Int32} {k : Nat} {u : Int64} (h : wdr z k u) (h1 : 0 < k) (h2 : z = 0 → k ≤ 10) : z = 0 → ∃ a, u = lN a ∧ gw a := fun hz => by
  obtain ⟨a, e1, e2, e3⟩ := h hz
  exact ⟨a, e1, e3 h1, okd_10 (h2 hz) e2⟩
/-- the script as a table -/
theorem q_script {b L : Nat} {xs : Nat → Int32} {U : State} {H : Heap} {B : Nat → Prop} (h : va_X b L xs U H) (hb : ¬ B b) : va_T .int b L (fun j => .int (xs j)) B U H := by
  obtain ⟨scr, h1, h2, h3, h4, h5⟩ := h
  exact ⟨scr, h1, h2, h3, by rw [h4]; exact Nat.le_refl _, by rw [h4], h5, hb⟩
/-- a callee has made X' of X, whose cells are its own; what stands beside is as it was -/
theorem q_beside {A0 : Nat → Prop} {D : va_G} {cl : List vw_C} {X Y X' : va_W} {H H1 : Heap} (hP : va_P D cl (X ++ Y) H) (hD : va_D A0 (X ++ Y)) (hk : ∀ q : Nat, q < H.size → ¬ va_A X H.size q → H1[q]? = H[q]?) (hF : ∀ q, va_A X H.size q → A0 q) (hP1 : va_P D cl X' H1) (hD1 : va_D (va_A X H.size) X') : va_P D cl (X' ++ Y) H1 ∧ va_D A0 (X' ++ Y) := by
  have hsw : ∀ {U V : va_W}, List.Perm (U ++ V) (V ++ U) := List.perm_append_comm
  obtain ⟨h1, h2⟩ := q_joinG (X := Y) (T := X) (cx := []) (cx' := []) (T' := X') (X' := Y) [] (q_Pperm hsw hP) (q_Dperm hsw hD) rfl rfl hk hF hP1 hD1 rfl
  exact ⟨q_Pperm hsw h1, q_Dperm hsw h2⟩
theorem q_besideF {A0 : Nat → Prop} {D : va_G} {cl : List vw_C} {X Y : va_W} {H H1 : Heap} (hP : va_P D cl (X ++ Y) H) (hk : ∀ q : Nat, q < H.size → H1[q]? = H[q]?) : va_P D cl (X ++ Y) H1 := q_kept hP hk
theorem q_Dl {A : Nat → Prop} {X Y : va_W} {sz : Nat} (hD : va_D A (X ++ Y)) : va_D (va_A X sz) X := (q_Dleft hD).self
theorem q_Fl {A : Nat → Prop} {X Y : va_W} {H0 H : Heap} {locs : List Loc} (hD : va_D A (X ++ Y)) (hS : va_S A H0 H locs) (hA : ∀ q : Nat, H0.size ≤ q → A q) : ∀ q, va_A X H.size q → A q := by
  rintro q (⟨k, e, h⟩ | h)
  · exact q_memD hD (q, e) (List.mem_append_left _ (List.mem_of_getElem? h))
  · exact hA q (Nat.le_trans hS.1 h)
theorem q_swP {D : va_G} {cl : List vw_C} {X Y : va_W} {H : Heap} (hP : va_P D cl (X ++ Y) H) : va_P D cl (Y ++ X) H := q_Pperm List.perm_append_comm hP
theorem q_swD {A : Nat → Prop} {X Y : va_W} (hD : va_D A (X ++ Y)) : va_D A (Y ++ X) := q_Dperm List.perm_append_comm hD
