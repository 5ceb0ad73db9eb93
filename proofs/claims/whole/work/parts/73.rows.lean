/-! reached nodes and their rows, from both sides -/
/-- what is left of a list's images without repetitions, in their order -/
def ddf (p : Nat → Nat) (l : List Nat) : List Nat := l.foldl (fun S x => ins S (p x)) []
theorem ddf_s (p : Nat → Nat) (l : List Nat) (x : Nat) : ddf p (l ++ [x]) = ins (ddf p l) (p x) := by
  unfold ddf; rw [List.foldl_append]; rfl
theorem ins_mem {L : List Nat} {v x : Nat} : x ∈ ins L v ↔ x ∈ L ∨ x = v := by
  unfold ins
  split
  · rename_i h
    exact ⟨fun h1 => Or.inl h1, fun h1 => h1.elim id (fun e => e ▸ h)⟩
  · exact q_mem_app
theorem ins_nd {L : List Nat} {v : Nat} (h : L.Nodup) : (ins L v).Nodup := by
  unfold ins
  split
  · exact h
  · rename_i h1; exact q_nd_app h h1
theorem q_snoc {P : List Nat → Prop} (h0 : P []) (hs : ∀ l x, P l → P (l ++ [x])) : ∀ l, P l := by
  have key : ∀ (k : Nat) (l : List Nat), l.length = k → P l := by
    intro k
    induction k with
    | zero => intro l h; rw [List.length_eq_zero_iff.mp h]; exact h0
    | succ k ih =>
      intro l h
      have hne : l ≠ [] := fun e => by rw [e] at h; exact absurd h (by simp)
      rw [← List.dropLast_concat_getLast hne]
      exact hs _ _ (ih _ (by rw [List.length_dropLast]; omega))
  exact fun l => key _ l rfl
theorem ddf_mem {p : Nat → Nat} {x : Nat} : ∀ l, x ∈ ddf p l ↔ ∃ y, y ∈ l ∧ p y = x := by
  apply q_snoc
  · exact ⟨fun h => absurd h List.not_mem_nil, fun ⟨y, h, _⟩ => absurd h List.not_mem_nil⟩
  · intro l y ih
    rw [ddf_s, ins_mem, ih]
    constructor
    · rintro (⟨z, h1, h2⟩ | h)
      · exact ⟨z, q_mem_app.mpr (Or.inl h1), h2⟩
      · exact ⟨y, q_mem_app.mpr (Or.inr rfl), h.symm⟩
    · rintro ⟨z, h1, h2⟩
      rcases q_mem_app.mp h1 with h3 | h3
      · exact Or.inl ⟨z, h3, h2⟩
      · exact Or.inr (by rw [← h2, h3])
theorem ddf_nd {p : Nat → Nat} : ∀ l, (ddf p l).Nodup := by
  apply q_snoc
  · exact List.nodup_nil
  · intro l y ih; rw [ddf_s]; exact ins_nd ih
theorem ins_len_in {L : List Nat} {v : Nat} (h : v ∈ L) : (ins L v).length = L.length := by rw [q_ins_self h]
theorem ins_len_out {L : List Nat} {v : Nat} (h : ¬ v ∈ L) : (ins L v).length = L.length + 1 := by
  rw [show ins L v = L ++ [v] from if_neg h, List.length_append]; rfl
/-- images by two functions that tell the same apart -/
theorem ddf_two {p r : Nat → Nat} (h : ∀ x y, p x = p y ↔ r x = r y) : ∀ l, (ddf p l).length = (ddf r l).length := by
  apply q_snoc
  · rfl
  · intro l y ih
    rw [ddf_s, ddf_s]
    by_cases h1 : p y ∈ ddf p l
    · have h2 : r y ∈ ddf r l := by
        obtain ⟨z, h3, h4⟩ := (ddf_mem l).mp h1
        exact (ddf_mem l).mpr ⟨z, h3, (h z y).mp h4⟩
      rw [ins_len_in h1, ins_len_in h2, ih]
    · have h2 : ¬ r y ∈ ddf r l := fun h9 => by
        obtain ⟨z, h3, h4⟩ := (ddf_mem l).mp h9
        exact h1 ((ddf_mem l).mpr ⟨z, h3, (h z y).mpr h4⟩)
      rw [ins_len_out h1, ins_len_out h2, ih]
theorem ddf_same {p : Nat → Nat} {l1 l2 : List Nat} (h : ∀ x, x ∈ l1 ↔ x ∈ l2) : (ddf p l1).length = (ddf p l2).length :=
  q_nd_eq (ddf_nd l1) (ddf_nd l2) (fun x => by
    rw [ddf_mem, ddf_mem]
    exact ⟨fun ⟨y, h1, h2⟩ => ⟨y, (h y).mp h1, h2⟩, fun ⟨y, h1, h2⟩ => ⟨y, (h y).mpr h1, h2⟩⟩)
theorem ddf_map {r : Nat → Nat} : ∀ l : List Nat, ddf (fun x => x) (l.map r) = ddf r l := by
  intro l; unfold ddf; rw [List.foldl_map]
theorem cnt_cg {P Q : Nat → Bool} : ∀ {r : Nat}, (∀ j, j < r → P j = Q j) → cnt P r = cnt Q r := by
  intro r
  induction r with
  | zero => intro _; rfl
  | succ r ih =>
    intro h
    show cnt P r + (if P r = true then 1 else 0) = cnt Q r + (if Q r = true then 1 else 0)
    rw [ih (fun j hj => h j (by omega)), h r (by omega)]
theorem dcl_len : ∀ L : List Nat, dcl L L.length = (ddf (fun x => x) L).length := by
  apply q_snoc
  · rfl
  · intro l v ih
    rw [ddf_s, List.length_append]
    show dcl (l ++ [v]) (l.length + 1) = _
    have h1 : dcl (l ++ [v]) l.length = dcl l l.length := by
      refine cnt_cg (fun i hi => decide_eq_decide.mpr ?_)
      rw [getD_app hi]
      exact ⟨fun h j hj => by have := h j hj; rw [getD_app (by omega)] at this; exact this, fun h j hj => by rw [getD_app (by omega)]; exact h j hj⟩
    have hmem : v ∈ ddf (fun x => x) l ↔ v ∈ l := by
      rw [ddf_mem]
      exact ⟨fun ⟨y, h2, h3⟩ => h3 ▸ h2, fun h2 => ⟨v, h2, rfl⟩⟩
    by_cases hv : v ∈ l
    · rw [ins_len_in (hmem.mpr hv), ← ih, ← h1]
      refine cnt_f ?_
      rw [decide_eq_true_eq]
      intro h2
      obtain ⟨j, hj, e⟩ := q_mem.mp hv
      refine h2 j hj ?_
      rw [getD_app hj, getD_last]; exact e
    · rw [ins_len_out (fun h2 => hv (hmem.mp h2)), ← ih, ← h1]
      refine cnt_t ?_
      rw [decide_eq_true_eq]
      intro j hj h2
      rw [getD_app hj, getD_last] at h2
      exact hv (q_mem.mpr ⟨j, hj, h2⟩)
theorem pck_eq {L L' : Nat → Nat} {c : Nat} (hc : c < 8) : ∀ n, pck L c n = pck L' c n ↔ ∀ j, j < n → min (L j) c = min (L' j) c := by
  intro n
  induction n with
  | zero => exact ⟨fun _ j hj => by omega, fun _ => rfl⟩
  | succ n ih =>
    show pck L c n * 8 + min (L n) c = pck L' c n * 8 + min (L' n) c ↔ _
    constructor
    · intro h j hj
      by_cases e : j = n
      · rw [e]; omega
      · exact ih.mp (by omega) j (by omega)
    · intro h
      rw [ih.mpr (fun j hj => h j (by omega)), h n (by omega)]
theorem rnf_eq {L L' : Nat → Nat} {c t : Nat} (hc : c < 8) : ∀ n, rnf L c t n = rnf L' c t n ↔ ∀ q, q < n → min (L (t - q)) c = min (L' (t - q)) c := by
  intro n
  induction n with
  | zero => exact ⟨fun _ j hj => by omega, fun _ => rfl⟩
  | succ n ih =>
    show 8 * rnf L c t n + min (L (t - n)) c = 8 * rnf L' c t n + min (L' (t - n)) c ↔ _
    constructor
    · intro h j hj
      by_cases e : j = n
      · rw [e]; omega
      · exact ih.mp (by omega) j (by omega)
    · intro h
      rw [ih.mpr (fun j hj => h j (by omega)), h n (by omega)]
def pckf (k t h : Nat) : Nat := pck (hrow h t) (k + 1) (wl t + 1)
theorem pr_same {k t : Nat} (hk : k ≤ 3) (x y : Nat) : pckf k t x = pckf k t y ↔ rown t k x = rown t k y := by
  unfold pckf rown
  rw [pck_eq (by omega), rnf_eq (by omega)]
  constructor
  · intro h q hq; exact h _ (by omega)
  · intro h j hj
    have := h (wl t - j) (by omega)
    rw [show wl t - (wl t - j) = j by omega] at this
    exact this
theorem hrow_beg {w t d : Nat} (h : d ≤ wl w) : hrow (beg w d) t = lev (ltz w) (ltz t) d := by
  funext j
  unfold hrow
  rw [wl_beg h]
  exact lev_congr (fun q hq => ltz_beg h hq) (fun _ _ => rfl)
theorem hrow_0 (t : Nat) : hrow 0 t = fun j => j := by
  unfold hrow; rw [wl_0]; rfl
/-- reached nodes of a list -/
def rchl (t k : Nat) (l : List Nat) : List Nat := l.filter (fun h => decide (rch t k h))
theorem rchl_t {t k x : Nat} {l : List Nat} (h : rch t k x) : rchl t k (l ++ [x]) = rchl t k l ++ [x] := by
  unfold rchl; rw [List.filter_append]; congr 1; exact List.filter_cons_of_pos (decide_eq_true h)
theorem rchl_f {t k x : Nat} {l : List Nat} (h : ¬ rch t k x) : rchl t k (l ++ [x]) = rchl t k l := by
  unfold rchl
  rw [List.filter_append, List.filter_cons_of_neg (by rw [decide_eq_true_eq]; exact h)]
  exact List.append_nil _
theorem rac_len {k t w p : Nat} {S : List Nat} : ∀ c, p + c ≤ wl w → (rchl t k (cna w p S c)).length = (rchl t k S).length + rac k t w p c ∧ ddf (pckf k t) (rchl t k (cna w p S c)) = ral k t w p (ddf (pckf k t) (rchl t k S)) c := by
  intro c
  induction c with
  | zero => intro _; exact ⟨rfl, rfl⟩
  | succ c ih =>
    intro hc
    have h1 := ih (by omega)
    have hb : hrow (beg w (p + c + 1)) t = lev (ltz w) (ltz t) (p + c + 1) := hrow_beg (by omega)
    show (rchl t k (cna w p S c ++ [beg w (p + c + 1)])).length = _ + (rac k t w p c + vcn k t _) ∧ ddf _ (rchl t k (cna w p S c ++ [beg w (p + c + 1)])) = vis k t _ _
    unfold vcn vis
    by_cases hr : rch t k (beg w (p + c + 1))
    · have hr2 : rmin (lev (ltz w) (ltz t) (p + c + 1)) (wl t) ≤ k := by rw [← hb]; exact hr
      rw [rchl_t hr, if_pos hr2, if_pos hr2, List.length_append, h1.1, ddf_s, h1.2]
      refine ⟨rfl, ?_⟩
      unfold pckf; rw [hb]
    · have hr2 : ¬ rmin (lev (ltz w) (ltz t) (p + c + 1)) (wl t) ≤ k := by rw [← hb]; exact hr
      rw [rchl_f hr, if_neg hr2, if_neg hr2]
      exact h1
theorem ren_len {k t : Nat} {wd ki : Nat → Nat} : ∀ i, ren k t wd ki i = (rchl t k (cno wd ki i)).length ∧ rel k t wd ki i = ddf (pckf k t) (rchl t k (cno wd ki i)) := by
  intro i
  induction i with
  | zero =>
    show vcn k t (fun j => j) = _ ∧ vis k t (fun j => j) [] = _
    unfold vcn vis
    by_cases hr : rch t k 0
    · have hr2 : rmin (fun j => j) (wl t) ≤ k := by rw [← hrow_0 t]; exact hr
      have e : rchl t k (cno wd ki 0) = [0] := List.filter_cons_of_pos (decide_eq_true hr)
      rw [if_pos hr2, if_pos hr2, e]
      refine ⟨rfl, ?_⟩
      show ins [] _ = ins [] (pckf k t 0)
      unfold pckf; rw [hrow_0]
    · have hr2 : ¬ rmin (fun j => j) (wl t) ≤ k := by rw [← hrow_0 t]; exact hr
      have e : rchl t k (cno wd ki 0) = [] := List.filter_cons_of_neg (by rw [decide_eq_true_eq]; exact hr)
      rw [if_neg hr2, if_neg hr2, e]
      exact ⟨rfl, rfl⟩
  | succ i ih =>
    have h1 := rac_len (k := k) (t := t) (w := wd (ki i)) (p := lpa wd ki i) (S := cno wd ki i) (wl (wd (ki i)) - lpa wd ki i) (by have := lpa_le wd ki i; omega)
    show ren k t wd ki i + rac _ _ _ _ _ = (rchl t k (cna _ _ _ _)).length ∧ ral _ _ _ _ (rel k t wd ki i) _ = ddf _ (rchl t k (cna _ _ _ _))
    rw [h1.1, h1.2, ih.1, ih.2]
    exact ⟨rfl, rfl⟩
theorem lri_eq {wd ct : Nat → Nat} {a k i : Nat} {L : List Nat} : ∀ q, lri wd ct a k i ((rchl a k L).map (rown a k)) q = (rchl a k (mna wd ct i L q)).map (rown a k) := by
  intro q
  induction q with
  | zero => rfl
  | succ q ih =>
    by_cases hf : fwd1 wd ct i (q + 1)
    · rw [mna_t hf]
      by_cases hr : rch a k (beg (wd i) (q + 1))
      · rw [lri_s ⟨hf, hr⟩, rchl_t hr, List.map_append, ih]; rfl
      · rw [lri_k (fun h => hr h.2), rchl_f hr, ih]
    · rw [mna_f hf, lri_k (fun h => hf h.1), ih]
theorem lrn_eq {wd ct : Nat → Nat} {a k : Nat} : ∀ i, lrn wd ct a k i = (rchl a k (mno wd ct i)).map (rown a k) := by
  intro i
  induction i with
  | zero =>
    by_cases hr : rch a k 0
    · have e : rchl a k (mno wd ct 0) = [0] := List.filter_cons_of_pos (decide_eq_true hr)
      rw [e]; exact if_pos hr
    · have e : rchl a k (mno wd ct 0) = [] := List.filter_cons_of_neg (by rw [decide_eq_true_eq]; exact hr)
      rw [e]; exact if_neg hr
  | succ i ih =>
    show lri wd ct a k i (lrn wd ct a k i) 10 = (rchl a k (mna wd ct i (mno wd ct i) 10)).map (rown a k)
    rw [ih, lri_eq]
section RO
variable {wd ct ki : Nat → Nat} {m n a k : Nat}
theorem rchl_same (hg : ∀ i, i < n → gw (wd i)) (hK : KN ct ki m n) (x : Nat) : x ∈ rchl a k (cno wd ki m) ↔ x ∈ rchl a k (mno wd ct n) := by
  unfold rchl
  rw [List.mem_filter, List.mem_filter, nodes_same hg hK]
theorem ren_eq (hg : ∀ i, i < n → gw (wd i)) (hK : KN ct ki m n) (hs : SRT wd ki m) : ren k a wd ki m = (lrn wd ct a k n).length := by
  rw [(ren_len m).1, lrn_eq, List.length_map]
  exact q_nd_eq ((cno_nd (m := m) (fun j hj => hg _ (hK.1 j hj).1) hs m (Nat.le_refl _)).filter _) ((mno_nd n).filter _) (rchl_same hg hK)
theorem rows_eq (hg : ∀ i, i < n → gw (wd i)) (hK : KN ct ki m n) (hk : k ≤ 3) : (rel k a wd ki m).length = dcl (lrn wd ct a k n) (lrn wd ct a k n).length := by
  rw [dcl_len, lrn_eq, ddf_map, (ren_len m).2, ddf_same (rchl_same (a := a) (k := k) hg hK)]
  exact ddf_two (fun x y => pr_same hk x y) _
end RO
