/-! PURE 1: what is live of a Year, congruence, numbers without overflow -/
def ab_lv (n N j k : Nat) : Prop := ((j = 0 ∨ j = 3 ∨ j = 7) ∧ k = 0) ∨ ((j = 1 ∨ j = 2) ∧ k < 4) ∨ ((j = 4 ∨ j = 5 ∨ j = 6) ∧ k < n) ∨ ((8 ≤ j ∧ j ≤ 11) ∧ k < N)
def ab_le (Y Z : Nat → Nat → Int32) (n N : Nat) : Prop := ∀ j k, ab_lv n N j k → Y j k = Z j k
theorem ab_le.symm {Y Z : Nat → Nat → Int32} {n N : Nat} (h : ab_le Y Z n N) : ab_le Z Y n N := fun j k hk => (h j k hk).symm
theorem ab_le.trans {X Y Z : Nat → Nat → Int32} {n N : Nat} (h : ab_le X Y n N) (g : ab_le Y Z n N) : ab_le X Z n N := fun j k hk => (h j k hk).trans (g j k hk)
theorem i3_add {x y : Int32} (h1 : -2147483648 ≤ x.toInt + y.toInt) (h2 : x.toInt + y.toInt ≤ 2147483647) : (x + y).toInt = x.toInt + y.toInt := by
  rw [Int32.toInt_add, Int.bmod_def]; omega
theorem i3_sub {x y : Int32} (h1 : -2147483648 ≤ x.toInt - y.toInt) (h2 : x.toInt - y.toInt ≤ 2147483647) : (x - y).toInt = x.toInt - y.toInt := by
  rw [Int32.toInt_sub, Int.bmod_def]; omega
theorem i3_mul {x y : Int32} (h1 : -2147483648 ≤ x.toInt * y.toInt) (h2 : x.toInt * y.toInt ≤ 2147483647) : (x * y).toInt = x.toInt * y.toInt := by
  rw [Int32.toInt_mul, Int.bmod_def]; omega
theorem i6_add {x y : Int64} (h1 : -9223372036854775808 ≤ x.toInt + y.toInt) (h2 : x.toInt + y.toInt ≤ 9223372036854775807) : (x + y).toInt = x.toInt + y.toInt := by
  rw [Int64.toInt_add, Int.bmod_def]; omega
theorem i6_sub {x y : Int64} (h1 : -9223372036854775808 ≤ x.toInt - y.toInt) (h2 : x.toInt - y.toInt ≤ 9223372036854775807) : (x - y).toInt = x.toInt - y.toInt := by
  rw [Int64.toInt_sub, Int.bmod_def]; omega
theorem i6_mul {x y : Int64} (h1 : -9223372036854775808 ≤ x.toInt * y.toInt) (h2 : x.toInt * y.toInt ≤ 9223372036854775807) : (x * y).toInt = x.toInt * y.toInt := by
  rw [Int64.toInt_mul, Int.bmod_def]; omega
theorem i3_lt {x y : Int32} : x < y ↔ x.toInt < y.toInt := Int32.lt_iff_toInt_lt
theorem i6_lt {x y : Int64} : x < y ↔ x.toInt < y.toInt := Int64.lt_iff_toInt_lt
theorem i3_w (x : Int32) : x.toInt64.toInt = x.toInt := Int32.toInt_toInt64 x
section PU1
variable {s s' d d' u u' : Nat → Int32} {n : Nat}
theorem ab_sc_c (hs : ∀ k, k < n → s k = s' k) : ∀ (m k : Nat) (c : Int32), k + m = n → ab_sc s m k c = ab_sc s' m k c := by
  intro m
  induction m with
  | zero => intro k c _; rfl
  | succ m ih => intro k c hk; unfold ab_sc; rw [hs k (by omega)]; exact ih _ _ (by omega)
theorem ab_sh_c {D : Int32} (hs : ∀ k, k < n → s k = s' k) (hd : ∀ k, k < n → d k = d' k) (hu : ∀ k, k < n → u k = u' k) : ∀ (m k : Nat) (c : Int32), k + m = n → ab_sh s d u D m k c = ab_sh s' d' u' D m k c := by
  intro m
  induction m with
  | zero => intro k c _; rfl
  | succ m ih => intro k c hk; unfold ab_sh; rw [hs k (by omega), hd k (by omega), hu k (by omega), ih _ _ (by omega)]
theorem ab_sp_c {A B : Int32} (hs : ∀ k, k < n → s k = s' k) (hd : ∀ k, k < n → d k = d' k) (hu : ∀ k, k < n → u k = u' k) : ∀ (m k : Nat) (c : Int32), k + m = n → ab_sp s d u A B m k c = ab_sp s' d' u' A B m k c := by
  intro m
  induction m with
  | zero => intro k c _; rfl
  | succ m ih => intro k c hk; unfold ab_sp; rw [hs k (by omega), hd k (by omega), hu k (by omega), ih _ _ (by omega)]
end PU1
section PU2
variable {Y Z : Nat → Nat → Int32} {n N : Nat}
theorem ab_le.h4 (h : ab_le Y Z n N) : ∀ k, k < n → Y 4 k = Z 4 k := fun k hk => h 4 k (by unfold ab_lv; omega)
theorem ab_le.h5 (h : ab_le Y Z n N) : ∀ k, k < n → Y 5 k = Z 5 k := fun k hk => h 5 k (by unfold ab_lv; omega)
theorem ab_le.h6 (h : ab_le Y Z n N) : ∀ k, k < n → Y 6 k = Z 6 k := fun k hk => h 6 k (by unfold ab_lv; omega)
theorem ab_le.h0 (h : ab_le Y Z n N) : Y 0 0 = Z 0 0 := h 0 0 (by unfold ab_lv; omega)
theorem ab_le.h3 (h : ab_le Y Z n N) : Y 3 0 = Z 3 0 := h 3 0 (by unfold ab_lv; omega)
theorem ab_le.h7 (h : ab_le Y Z n N) : Y 7 0 = Z 7 0 := h 7 0 (by unfold ab_lv; omega)
theorem ab_le.h1 (h : ab_le Y Z n N) : ∀ k, k < 4 → Y 1 k = Z 1 k := fun k hk => h 1 k (by unfold ab_lv; omega)
theorem ab_le.h2 (h : ab_le Y Z n N) : ∀ k, k < 4 → Y 2 k = Z 2 k := fun k hk => h 2 k (by unfold ab_lv; omega)
theorem ab_le.h8 (h : ab_le Y Z n N) : ∀ k, k < N → Y 8 k = Z 8 k := fun k hk => h 8 k (by unfold ab_lv; omega)
theorem ab_le.h9 (h : ab_le Y Z n N) : ∀ k, k < N → Y 9 k = Z 9 k := fun k hk => h 9 k (by unfold ab_lv; omega)
theorem ab_le.h10 (h : ab_le Y Z n N) : ∀ k, k < N → Y 10 k = Z 10 k := fun k hk => h 10 k (by unfold ab_lv; omega)
theorem ab_le.h11 (h : ab_le Y Z n N) : ∀ k, k < N → Y 11 k = Z 11 k := fun k hk => h 11 k (by unfold ab_lv; omega)
theorem ab_le.sc (h : ab_le Y Z n N) : ab_sc (Y 4) n 0 0 = ab_sc (Z 4) n 0 0 := ab_sc_c h.h4 n 0 0 (by omega)
theorem ab_le.sh (h : ab_le Y Z n N) (D : Int32) : ab_sh (Y 4) (Y 5) (Y 6) D n 0 (Y 0 0) = ab_sh (Z 4) (Z 5) (Z 6) D n 0 (Z 0 0) := by rw [h.h0]; exact ab_sh_c h.h4 h.h5 h.h6 n 0 _ (by omega)
theorem ab_le.sp (h : ab_le Y Z n N) (A B : Int32) : ab_sp (Y 4) (Y 5) (Y 6) A B n 0 1 = ab_sp (Z 4) (Z 5) (Z 6) A B n 0 1 := ab_sp_c h.h4 h.h5 h.h6 n 0 _ (by omega)
theorem ab_le.rs (h : ab_le Y Z n N) (D : Int32) : ab_rs Y n D = ab_rs Z n D := by unfold ab_rs; rw [h.sh, h.sp]
theorem ab_le.old (h : ab_le Y Z n N) {i : Nat} (hi : i < N) : ab_old Y n i = ab_old Z n i := by unfold ab_old; rw [h.h10 i hi, h.h9 i hi, h.sp]
theorem ab_le.pr (h : ab_le Y Z n N) {i q : Nat} (hi : i < N) (hq : q < 4) : ab_pr Y n i q = ab_pr Z n i q := by unfold ab_pr; rw [h.h2 q hq, h.h9 i hi, h.sp]
theorem ab_le.ld (h : ab_le Y Z n N) : ab_ld Y n = ab_ld Z n := by
  unfold ab_ld
  by_cases e : n = 0
  · rw [if_pos e, if_pos e]
  · rw [if_neg e, if_neg e, h.h5 _ (by omega)]
theorem ab_le.mo (h : ab_le Y Z n N) (s : Int32) : ab_mo Y n s = ab_mo Z n s := by unfold ab_mo; rw [h.sh]
theorem ab_er_c {p p' : Nat → Int32} (hp : ∀ q, q < 4 → p q = p' q) : ∀ (m q : Nat) (c : Int64), q + m ≤ 4 → ab_er p m q c = ab_er p' m q c := by
  intro m
  induction m with
  | zero => intro q c _; rfl
  | succ m ih => intro q c hk; unfold ab_er; rw [hp q (by omega)]; exact ih _ _ (by omega)
theorem ab_le.e (h : ab_le Y Z n N) {a b : Nat} (hb : b < 4) : ab_e Y a b = ab_e Z a b := by
  unfold ab_e
  by_cases hab : a ≤ b
  · exact ab_er_c h.h1 _ _ _ (by omega)
  · rw [show b + 1 - a = 0 by omega]; rfl
theorem ab_le.op (h : ab_le Y Z n N) {i q : Nat} (hi : i < N) (hq : q < 4) : ab_op Y n i q = ab_op Z n i q := by unfold ab_op; rw [h.pr hi hq, h.old hi, h.h11 i hi, h.h9 i hi]
theorem ab_le.ops (h : ab_le Y Z n N) {i : Nat} (hi : i < N) : ∀ (m q : Nat) (c : Int64), q + m ≤ 4 → ab_ops Y n i m q c = ab_ops Z n i m q c := by
  intro m
  induction m with
  | zero => intro q c _; rfl
  | succ m ih => intro q c hk; unfold ab_ops; rw [h.op hi (by omega)]; exact ih _ _ (by omega)
theorem ab_le.aw (h : ab_le Y Z n N) {i a b : Nat} (hi : i < N) (hab : a ≤ b) (hb : b < 4) : ab_aw Y n i a b = ab_aw Z n i a b := by
  unfold ab_aw; rw [h.ops hi _ _ _ (by omega), h.h8 i hi, h.pr hi hb, h.old hi, h.h11 i hi, h.h9 i hi]
theorem ab_le.ae (h : ab_le Y Z n N) {i a b : Nat} (hi : i < N) : ab_ae Y i a b = ab_ae Z i a b := by
  unfold ab_ae; rw [h.h8 i hi, h.h11 i hi, h.h9 i hi]
theorem ab_le.ff (h : ab_le Y Z n N) {i : Nat} (hi : i < N) : ab_ff Y i = ab_ff Z i := by
  unfold ab_ff; rw [h.h8 i hi, h.h11 i hi]
theorem ab_le.wt (h : ab_le Y Z n N) {e : Int32} : ∀ (m k : Nat) (d : Int32) (c : Int64), k + m = n → ab_wt Y n e m k d c = ab_wt Z n e m k d c := by
  intro m
  induction m with
  | zero => intro k d c _; unfold ab_wt; rw [h.rs]
  | succ m ih => intro k d c hk; unfold ab_wt; rw [h.h5 k (by omega), h.rs, ih _ _ _ (by omega), ih _ _ _ (by omega)]
theorem ab_le.V (h : ab_le Y Z n N) {a b : Nat} : ab_V Y n a b = ab_V Z n a b := h.wt n 0 _ _ (by omega)
/-- lists: the candidates hang on the weights and earnings alone -/
theorem ab_ins_c {lt lt' : Nat → Prop} {dec : ∀ j, Decidable (lt j)} {dec' : ∀ j, Decidable (lt' j)} {i : Nat} : ∀ r : List Nat, (∀ j, j ∈ r → (lt j ↔ lt' j)) → ab_ins lt dec i r = ab_ins lt' dec' i r := by
  intro r
  induction r with
  | nil => intro _; rfl
  | cons j r ih =>
    intro h
    unfold ab_ins
    have e := h j List.mem_cons_self
    by_cases c : lt j
    · rw [if_pos c, if_pos (e.mp c), ih (fun k hk => h k (List.mem_cons_of_mem _ hk))]
    · rw [if_neg c, if_neg (fun z => c (e.mpr z))]
theorem ab_cl_c {W W' E E' : Nat → Int64} {lo : Int32} : ∀ m : Nat, (∀ i, i < m → W i = W' i ∧ E i = E' i) → ab_cl W E lo m = ab_cl W' E' lo m := by
  intro m
  induction m with
  | zero => intro _; rfl
  | succ m ih =>
    intro h
    unfold ab_cl
    rw [(h m (by omega)).1, ih (fun i hi => h i (by omega))]
    split
    · refine ab_ins_c _ (fun j hj => ?_)
      have hj' := (ab_cl_lt _ _ hj).1
      unfold ab_lt
      rw [(h m (by omega)).1, (h m (by omega)).2, (h j (by omega)).1, (h j (by omega)).2]
    · rfl
theorem ab_tl_c {W W' E E' : Nat → Int64} : ∀ (l : List Nat) (e v : Int64) (s : Int32), (∀ i, i ∈ l → W i = W' i ∧ E i = E' i) → ab_tl W E l e v s = ab_tl W' E' l e v s := by
  intro l
  induction l with
  | nil => intro e v s _; rfl
  | cons i l ih =>
    intro e v s h
    unfold ab_tl
    rw [(h i List.mem_cons_self).1, (h i List.mem_cons_self).2, ih _ _ _ (fun k hk => h k (List.mem_cons_of_mem _ hk))]
theorem ab_rl_c {W W' E E' F F' : Nat → Int64} {lo : Int32} {re : Int64} (h : ∀ i, i < N → W i = W' i ∧ E i = E' i ∧ F i = F' i) : ab_rl W E F lo N re = ab_rl W' E' F' lo N re := by
  unfold ab_rl
  rw [ab_cl_c N (fun i hi => ⟨(h i hi).1, (h i hi).2.1⟩)]
  refine List.filter_congr (fun j hj => ?_)
  rw [(h j (ab_cl_lt _ _ (List.mem_reverse.mp hj)).1).2.2]
theorem ab_le.L (h : ab_le Y Z n N) {a b : Nat} {lo : Int32} {re : Int64} (hab : a ≤ b) (hb : b < 4) : ab_L Y n N a b lo re = ab_L Z n N a b lo re :=
  ab_rl_c (fun _ hi => ⟨h.aw hi hab hb, h.ae hi, h.ff hi⟩)
theorem ab_le.T (h : ab_le Y Z n N) {a b : Nat} {lo : Int32} {e re : Int64} (hab : a ≤ b) (hb : b < 4) : ab_T Y n N a b lo e re = ab_T Z n N a b lo e re := by
  unfold ab_T
  rw [h.L hab hb, h.V]
  exact ab_tl_c _ _ _ _ (fun i hi => ⟨h.aw (ab_rl_mem hi) hab hb, h.ae (ab_rl_mem hi)⟩)
theorem ab_le.dil (h : ab_le Y Z n N) {a b : Nat} {lo : Int32} (hab : a ≤ b) (hb : b < 4) : ab_dil Y n N a b lo = ab_dil Z n N a b lo := by
  unfold ab_dil; rw [h.T hab hb, h.e hb, h.e hb]
end PU2
