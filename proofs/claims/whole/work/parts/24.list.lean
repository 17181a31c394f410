/-! LISTS: what the arrays of ranks stand for -/
def ab_ins (lt : Nat → Prop) (dec : ∀ j, Decidable (lt j)) (i : Nat) : List Nat → List Nat
  | [] => [i]
  | j :: r => @ite _ (lt j) (dec j) (j :: ab_ins lt dec i r) (i :: j :: r)
/-- an array holds a list, its last first -/
def ab_rep (ca : Nat → Int32) : List Nat → Prop
  | [] => True
  | j :: r => ca r.length = nI j ∧ j < 8 ∧ ab_rep ca r
theorem ab_ins_len {lt : Nat → Prop} {dec : ∀ j, Decidable (lt j)} {i : Nat} : ∀ r : List Nat, (ab_ins lt dec i r).length = r.length + 1 := by
  intro r
  induction r with
  | nil => rfl
  | cons j r ih =>
    unfold ab_ins
    by_cases h : lt j
    · rw [if_pos h, List.length_cons, ih, List.length_cons]
    · rw [if_neg h]; rfl
theorem ab_shift_high {lt : Nat → Prop} {dec : ∀ j, Decidable (lt j)} {i : Int32} : ∀ (t : Nat) (ca : Nat → Int32) (s : Nat), t < s → ab_shift lt dec i t ca s = ca s := by
  intro t
  induction t with
  | zero => intro ca s h; exact pk_un (by omega)
  | succ t ih =>
    intro ca s h
    unfold ab_shift
    by_cases hl : lt (ca t).toNatClampNeg
    · rw [if_pos hl, ih _ _ (by omega), pk_un (by omega)]
    · rw [if_neg hl, pk_un (by omega)]
theorem ab_rep_upd {ca : Nat → Int32} {x : Int32} : ∀ (r : List Nat) (s : Nat), r.length ≤ s → ab_rep ca r → ab_rep (upd ca s x) r := by
  intro r
  induction r with
  | nil => intro _ _ _; trivial
  | cons j r ih =>
    intro s hs h
    rw [List.length_cons] at hs
    exact ⟨by rw [pk_un (by omega)]; exact h.1, h.2.1, ih s (by omega) h.2.2⟩
theorem ab_shift_rep {lt lt2 : Nat → Prop} {dec : ∀ j, Decidable (lt j)} {dec2 : ∀ j, Decidable (lt2 j)} {i : Nat} (hi : i < 8) : ∀ (r : List Nat) (ca : Nat → Int32), ab_rep ca r → (∀ j, j ∈ r → (lt j ↔ lt2 j)) → ab_rep (ab_shift lt dec (nI i) r.length ca) (ab_ins lt2 dec2 i r) := by
  intro r
  induction r with
  | nil => intro ca _ _; exact ⟨pk_us, hi, trivial⟩
  | cons j r ih =>
    intro ca h he
    obtain ⟨h1, h2, h3⟩ := h
    have hc : (ca r.length).toNatClampNeg = j := by rw [h1, nI_clamp (by omega)]
    have hj := he j List.mem_cons_self
    rw [List.length_cons]
    unfold ab_shift ab_ins
    by_cases hl : lt j
    · rw [if_pos (show lt (ca r.length).toNatClampNeg by rw [hc]; exact hl), if_pos (hj.mp hl)]
      refine ⟨?_, h2, ih _ (ab_rep_upd r _ (by omega) h3) (fun k hk => he k (List.mem_cons_of_mem _ hk))⟩
      rw [ab_ins_len, ab_shift_high _ _ _ (by omega), pk_us, h1]
    · rw [if_neg (show ¬ lt (ca r.length).toNatClampNeg by rw [hc]; exact hl), if_neg (fun z => hl (hj.mpr z))]
      exact ⟨pk_us, hi, by rw [pk_un (by omega)]; exact h1, h2, ab_rep_upd r _ (by omega) h3⟩
/-- the candidates among the first, the last first -/
def ab_cl (Wf Ef : Nat → Int64) (lo : Int32) : Nat → List Nat
  | 0 => []
  | i + 1 => if ¬ nI i = lo ∧ 0 < Wf i then ab_ins (ab_lt Wf Ef i) (ab_ltd Wf Ef i) i (ab_cl Wf Ef lo i) else ab_cl Wf Ef lo i
theorem ab_ins_mem {lt : Nat → Prop} {dec : ∀ j, Decidable (lt j)} {i k : Nat} : ∀ r : List Nat, k ∈ ab_ins lt dec i r ↔ k = i ∨ k ∈ r := by
  intro r
  induction r with
  | nil => simp [ab_ins]
  | cons j r ih =>
    unfold ab_ins
    by_cases h : lt j
    · rw [if_pos h, List.mem_cons, ih, List.mem_cons]
      constructor
      · rintro (h | h | h)
        · exact Or.inr (Or.inl h)
        · exact Or.inl h
        · exact Or.inr (Or.inr h)
      · rintro (h | h | h)
        · exact Or.inr (Or.inl h)
        · exact Or.inl h
        · exact Or.inr (Or.inr h)
    · rw [if_neg h, List.mem_cons]
theorem ab_cl_lt {Wf Ef : Nat → Int64} {lo : Int32} : ∀ (m k : Nat), k ∈ ab_cl Wf Ef lo m → k < m ∧ ¬ nI k = lo ∧ 0 < Wf k := by
  intro m
  induction m with
  | zero => intro k h; cases h
  | succ m ih =>
    intro k h
    unfold ab_cl at h
    by_cases hc : ¬ nI m = lo ∧ 0 < Wf m
    · rw [if_pos hc] at h
      rcases (ab_ins_mem _).mp h with rfl | h
      · exact ⟨by omega, hc⟩
      · have := ih k h; exact ⟨by omega, this.2⟩
    · rw [if_neg hc] at h
      have := ih k h; exact ⟨by omega, this.2⟩
/-- what gathering leaves -/
theorem ab_ga_rep {Wf Ef Ff : Nat → Int64} {lo : Int32} {N : Nat} (hN : N ≤ 8) : ∀ (m i : Nat) (tw te pf : Nat → Int64) (ca : Nat → Int32) (t : Nat), i + m = N → t = (ab_cl Wf Ef lo i).length → ab_rep ca (ab_cl Wf Ef lo i) → (∀ j, j < i → tw j = Wf j ∧ te j = Ef j ∧ pf j = Ff j) →
    (∀ j, j < N → (ab_ga Wf Ef Ff lo m i tw te pf ca t).1 j = Wf j ∧ (ab_ga Wf Ef Ff lo m i tw te pf ca t).2.1 j = Ef j ∧ (ab_ga Wf Ef Ff lo m i tw te pf ca t).2.2.1 j = Ff j) ∧ ab_rep (ab_ga Wf Ef Ff lo m i tw te pf ca t).2.2.2.1 (ab_cl Wf Ef lo N) ∧ (ab_ga Wf Ef Ff lo m i tw te pf ca t).2.2.2.2 = (ab_cl Wf Ef lo N).length := by
  intro m
  induction m with
  | zero =>
    intro i tw te pf ca t hi ht hr hj
    have : i = N := by omega
    subst this
    exact ⟨hj, hr, ht⟩
  | succ m ih =>
    intro i tw te pf ca t hi ht hr hj
    have hj' : ∀ j, j < i + 1 → vp_updL tw i (Wf i) j = Wf j ∧ vp_updL te i (Ef i) j = Ef j ∧ vp_updL pf i (Ff i) j = Ff j := by
      intro j hji
      by_cases h : j = i
      · subst h; exact ⟨pk_uLs, pk_uLs, pk_uLs⟩
      · rw [pk_uLn h, pk_uLn h, pk_uLn h]; exact hj j (by omega)
    unfold ab_ga
    by_cases h : ¬ nI i = lo ∧ 0 < Wf i
    · rw [if_pos h]
      have e : ab_cl Wf Ef lo (i + 1) = ab_ins (ab_lt Wf Ef i) (ab_ltd Wf Ef i) i (ab_cl Wf Ef lo i) := by
        conv => lhs; unfold ab_cl
        rw [if_pos h]
      refine ih (i + 1) _ _ _ _ _ (by omega) (by rw [e, ab_ins_len, ht]) ?_ hj'
      rw [e, ht]
      refine ab_shift_rep (by omega) _ _ hr (fun j hj2 => ?_)
      have hlt := (ab_cl_lt _ _ hj2).1
      unfold ab_lt
      rw [(hj' i (by omega)).1, (hj' i (by omega)).2.1, (hj' j (by omega)).1, (hj' j (by omega)).2.1]
    · rw [if_neg h]
      have e : ab_cl Wf Ef lo (i + 1) = ab_cl Wf Ef lo i := by
        conv => lhs; unfold ab_cl
        rw [if_neg h]
      exact ih (i + 1) _ _ _ _ _ (by omega) (by rw [e, ht]) (by rw [e]; exact hr) hj'
/-- an array holds a list, its first first -/
def ab_rpf (rk : Nat → Int32) (l : List Nat) : Prop := ∀ s, s < l.length → rk s = nI (l.getD s 0) ∧ l.getD s 0 < 8
theorem ab_rep_rpf {ca : Nat → Int32} : ∀ (r : List Nat), ab_rep ca r → ab_rpf ca r.reverse := by
  intro r
  induction r with
  | nil => intro _ s hs; simp at hs
  | cons j r ih =>
    intro h s hs
    rw [List.length_reverse, List.length_cons] at hs
    rw [List.reverse_cons]
    by_cases h2 : s < r.length
    · have := ih h.2.2 s (by rw [List.length_reverse]; exact h2)
      rw [List.getD_eq_getElem?_getD, List.getElem?_append_left (by rw [List.length_reverse]; exact h2), ← List.getD_eq_getElem?_getD]
      exact this
    · have hs2 : s = r.length := by omega
      subst hs2
      rw [List.getD_eq_getElem?_getD, List.getElem?_append_right (by rw [List.length_reverse]; omega), List.length_reverse, Nat.sub_self]
      exact ⟨h.1, h.2.1⟩
theorem ab_rpf_snoc {rk : Nat → Int32} {l : List Nat} {j : Nat} (h : ab_rpf rk l) (hj : j < 8) : ab_rpf (upd rk l.length (nI j)) (l ++ [j]) := by
  intro s hs
  rw [List.length_append, List.length_singleton] at hs
  by_cases h2 : s < l.length
  · rw [pk_un (by omega), List.getD_eq_getElem?_getD, List.getElem?_append_left h2, ← List.getD_eq_getElem?_getD]
    exact h s h2
  · have hs2 : s = l.length := by omega
    subst hs2
    rw [pk_us, List.getD_eq_getElem?_getD, List.getElem?_append_right (Nat.le_refl _), Nat.sub_self]
    exact ⟨rfl, hj⟩
theorem ab_f1 {p : Nat → Bool} {x : Nat} (h : p x = true) : [x].filter p = [x] := by simp [List.filter, h]
theorem ab_f0 {p : Nat → Bool} {x : Nat} (h : p x = false) : [x].filter p = [] := by simp [List.filter, h]
/-- what filtering leaves -/
theorem ab_fl_rpf {pf Ff : Nat → Int64} {re : Int64} {ca : Nat → Int32} {l : List Nat} (hl : ab_rpf ca l) (hp : ∀ j, j ∈ l → pf j = Ff j) : ∀ (m k : Nat) (rk : Nat → Int32) (r : Nat), k + m = l.length → r = ((l.take k).filter (fun j => decide (¬ re < Ff j))).length → ab_rpf rk ((l.take k).filter (fun j => decide (¬ re < Ff j))) →
    ab_rpf (ab_fl pf re ca m k rk r).1 (l.filter (fun j => decide (¬ re < Ff j))) ∧ (ab_fl pf re ca m k rk r).2 = (l.filter (fun j => decide (¬ re < Ff j))).length := by
  intro m
  induction m with
  | zero =>
    intro k rk r hk hr h
    have : l.take k = l := List.take_of_length_le (by omega)
    rw [this] at hr h
    exact ⟨h, hr⟩
  | succ m ih =>
    intro k rk r hk hr h
    have hkl : k < l.length := by omega
    obtain ⟨h1, h2⟩ := hl k hkl
    have hg : l.getD k 0 = l[k] := by rw [List.getD_eq_getElem?_getD, List.getElem?_eq_getElem hkl]; rfl
    have htk : l.take (k + 1) = l.take k ++ [l[k]] := by rw [List.take_add_one, List.getElem?_eq_getElem hkl]; rfl
    have hpf : pf (ca k).toNatClampNeg = Ff l[k] := by rw [h1, hg, nI_clamp (by rw [hg] at h2; omega)]; exact hp _ (List.getElem_mem hkl)
    unfold ab_fl
    by_cases hc : re < pf (ca k).toNatClampNeg
    · rw [if_pos hc]
      have hc2 : re < Ff l[k] := by rw [← hpf]; exact hc
      refine ih (k + 1) rk r (by omega) ?_ ?_
      · rw [htk, List.filter_append, ab_f0 (by simp [hc2]), List.append_nil]; exact hr
      · rw [htk, List.filter_append, ab_f0 (by simp [hc2]), List.append_nil]; exact h
    · rw [if_neg hc]
      have hc2 : ¬ re < Ff l[k] := by rw [← hpf]; exact hc
      have ef : (l.take (k + 1)).filter (fun j => decide (¬ re < Ff j)) = (l.take k).filter (fun j => decide (¬ re < Ff j)) ++ [l[k]] := by
        rw [htk, List.filter_append, ab_f1 (by simp [hc2])]
      refine ih (k + 1) _ _ (by omega) ?_ ?_
      · rw [ef, List.length_append, List.length_singleton, hr]
      · rw [ef, h1, hg, hr]
        exact ab_rpf_snoc h (by rw [← hg]; exact h2)
/-- taking in, by the list -/
def ab_tl (Wf Ef : Nat → Int64) : List Nat → Int64 → Int64 → Int32 → Int32 × Int32 × Int64 × Int64
  | [], e, v, s => (s, -1, e, v)
  | i :: l, e, v, s => if (e + Ef i) * v < e * (v + Wf i) then ab_tl Wf Ef l (e + Ef i) (v + Wf i) (s ||| (1 <<< (nI i &&& 31))) else (s, nI i, e, v)
theorem ab_ti_tl {rk : Nat → Int32} {tw te Wf Ef : Nat → Int64} {l : List Nat} (hl : ab_rpf rk l) (hw : ∀ j, j ∈ l → tw j = Wf j ∧ te j = Ef j) : ∀ (m k : Nat) (e v : Int64) (s : Int32), k + m = l.length → ab_ti rk tw te m k e v s = ab_tl Wf Ef (l.drop k) e v s := by
  intro m
  induction m with
  | zero =>
    intro k e v s hk
    rw [List.drop_of_length_le (by omega)]
    rfl
  | succ m ih =>
    intro k e v s hk
    have hkl : k < l.length := by omega
    obtain ⟨h1, h2⟩ := hl k hkl
    have hg : l.getD k 0 = l[k] := by rw [List.getD_eq_getElem?_getD, List.getElem?_eq_getElem hkl]; rfl
    have hc : (rk k).toNatClampNeg = l[k] := by rw [h1, hg, nI_clamp (by rw [hg] at h2; omega)]
    obtain ⟨w1, w2⟩ := hw l[k] (List.getElem_mem hkl)
    rw [List.drop_eq_getElem_cons hkl]
    unfold ab_ti ab_tl
    rw [hc, w1, w2, h1, hg]
    by_cases hx : (e + Ef l[k]) * v < e * (v + Wf l[k])
    · rw [if_pos hx, if_pos hx]
      exact ih _ _ _ _ (by omega)
    · rw [if_neg hx, if_neg hx]
theorem ab_rep_val {ca : Nat → Int32} {l : List Nat} (h : ab_rpf ca l) : ab_val ca l.length := fun s hs => ⟨_, (h s hs).2, (h s hs).1⟩
/-- the set of a list -/
def ab_sl : List Nat → Int32 → Int32
  | [], s => s
  | i :: l, s => ab_sl l (s ||| (1 <<< (nI i &&& 31)))
theorem ab_rs_sl {rk : Nat → Int32} {l : List Nat} (hl : ab_rpf rk l) : ∀ (m k : Nat) (s : Int32), k + m = l.length → ab_rs_ rk m k s = ab_sl (l.drop k) s := by
  intro m
  induction m with
  | zero =>
    intro k s hk
    rw [List.drop_of_length_le (by omega)]
    rfl
  | succ m ih =>
    intro k s hk
    have hkl : k < l.length := by omega
    obtain ⟨h1, h2⟩ := hl k hkl
    have hg : l.getD k 0 = l[k] := by rw [List.getD_eq_getElem?_getD, List.getElem?_eq_getElem hkl]; rfl
    rw [List.drop_eq_getElem_cons hkl]
    unfold ab_rs_ ab_sl
    rw [h1, hg]
    exact ih _ _ (by omega)
theorem ab_cl_len {Wf Ef : Nat → Int64} {lo : Int32} : ∀ m : Nat, (ab_cl Wf Ef lo m).length ≤ m := by
  intro m
  induction m with
  | zero => exact Nat.le_refl _
  | succ m ih =>
    unfold ab_cl
    by_cases h : ¬ nI m = lo ∧ 0 < Wf m
    · rw [if_pos h, ab_ins_len]; omega
    · rw [if_neg h]; omega
/-- the candidates in order, and those of them that are ranked -/
def ab_rl (Wf Ef Ff : Nat → Int64) (lo : Int32) (N : Nat) (re : Int64) : List Nat := (ab_cl Wf Ef lo N).reverse.filter (fun j => decide (¬ re < Ff j))
