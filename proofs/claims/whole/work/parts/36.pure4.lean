/-! PURE 4: ranks with floors, a share, and the two ways to reckon them -/
section PU5
variable {W E : Nat → Int64} {N : Nat}
def ab_wb (W E : Nat → Int64) (i : Nat) : Prop := 1 ≤ (W i).toInt ∧ (W i).toInt ≤ 10496550240 ∧ 0 ≤ (E i).toInt ∧ (E i).toInt ≤ 99999
theorem ab_lt_i {i j : Nat} (hi : ab_wb W E i) (hj : ab_wb W E j) : ab_lt W E i j ↔ (E i).toInt * (W j).toInt < (E j).toInt * (W i).toInt := by
  obtain ⟨a1, a2, a3, a4⟩ := hi
  obtain ⟨b1, b2, b3, b4⟩ := hj
  unfold ab_lt
  have m1 : 0 ≤ (E i).toInt * (W j).toInt := im_nn a3 (by omega)
  have m2 : (E i).toInt * (W j).toInt ≤ 99999 * 10496550240 := Int.mul_le_mul a4 b2 (by omega) (by omega)
  have m3 : 0 ≤ (E j).toInt * (W i).toInt := im_nn b3 (by omega)
  have m4 : (E j).toInt * (W i).toInt ≤ 99999 * 10496550240 := Int.mul_le_mul b4 a2 (by omega) (by omega)
  rw [i6_lt, i6_mul (by omega) (by omega), i6_mul (by omega) (by omega)]
/-- harm: if i has no less than j, and j no less than x, then i no less than x -/
theorem ab_lt_tr {i j x : Nat} (hi : ab_wb W E i) (hj : ab_wb W E j) (hx : ab_wb W E x) (h1 : ¬ ab_lt W E i j) (h2 : ¬ ab_lt W E j x) : ¬ ab_lt W E i x := by
  rw [ab_lt_i hi hj] at h1
  rw [ab_lt_i hj hx] at h2
  rw [ab_lt_i hi hx]
  obtain ⟨a1, -, a3, -⟩ := hi
  obtain ⟨b1, -, b3, -⟩ := hj
  obtain ⟨c1, -, c3, -⟩ := hx
  intro h3
  generalize (E i).toInt = ei at *
  generalize (E j).toInt = ej at *
  generalize (E x).toInt = ex at *
  generalize (W i).toInt = wi at *
  generalize (W j).toInt = wj at *
  generalize (W x).toInt = wx at *
  have g1 : ej * wi * wx ≤ ei * wj * wx := im_le (by omega) (by omega)
  have g2 : ex * wj * wi ≤ ej * wx * wi := im_le (by omega) (by omega)
  have g3 : ei * wx * wj < ex * wi * wj := Int.mul_lt_mul_of_pos_right h3 (by omega)
  rw [show ei * wj * wx = ei * wx * wj from Int.mul_right_comm _ _ _, show ej * wi * wx = ej * wx * wi from Int.mul_right_comm _ _ _] at g1
  rw [show ex * wj * wi = ex * wi * wj from Int.mul_right_comm _ _ _] at g2
  omega
theorem ab_lt_as {i j : Nat} (h : ab_lt W E i j) : ¬ ab_lt W E j i := fun g => Int64.lt_asymm h g
theorem ab_ins_so {i : Nat} (hi : ab_wb W E i) : ∀ r : List Nat, (∀ j, j ∈ r → ab_wb W E j) → r.Pairwise (fun j x => ¬ ab_lt W E j x) → (ab_ins (ab_lt W E i) (ab_ltd W E i) i r).Pairwise (fun j x => ¬ ab_lt W E j x) := by
  intro r
  induction r with
  | nil => intro _ _; unfold ab_ins; exact List.pairwise_singleton _ _
  | cons j r ih =>
    intro hb hp
    rw [List.pairwise_cons] at hp
    unfold ab_ins
    by_cases c : ab_lt W E i j
    · rw [if_pos c, List.pairwise_cons]
      refine ⟨fun x hx => ?_, ih (fun k hk => hb k (List.mem_cons_of_mem _ hk)) hp.2⟩
      rcases (ab_ins_mem r).mp hx with e | e
      · subst e; exact ab_lt_as c
      · exact hp.1 x e
    · rw [if_neg c, List.pairwise_cons]
      refine ⟨fun x hx => ?_, List.pairwise_cons.mpr hp⟩
      rcases List.mem_cons.mp hx with e | e
      · subst e; exact c
      · exact ab_lt_tr hi (hb j List.mem_cons_self) (hb x hx) c (hp.1 x e)
theorem ab_cl_so {lo : Int32} : ∀ m : Nat, (∀ i, i < m → 0 < W i → ab_wb W E i) → (ab_cl W E lo m).Pairwise (fun j x => ¬ ab_lt W E j x) := by
  intro m
  induction m with
  | zero => intro _; exact List.Pairwise.nil
  | succ m ih =>
    intro h
    unfold ab_cl
    split
    · rename_i c
      exact ab_ins_so (h m (by omega) c.2) _ (fun j hj => h j (by have := (ab_cl_lt _ _ hj).1; omega) (ab_cl_lt _ _ hj).2.2) (ih (fun i hi => h i (by omega)))
    · exact ih (fun i hi => h i (by omega))
theorem ab_ins_out {lt : Nat → Prop} {dec : ∀ j, Decidable (lt j)} {p : Nat → Bool} {i : Nat} (hp : p i = false) : ∀ r : List Nat, (ab_ins lt dec i r).filter p = r.filter p := by
  intro r
  induction r with
  | nil => unfold ab_ins; rw [List.filter_cons, hp]; rfl
  | cons j r ih =>
    unfold ab_ins
    by_cases c : lt j
    · rw [if_pos c, List.filter_cons, List.filter_cons, ih]
    · rw [if_neg c, List.filter_cons, hp]; rfl
theorem ab_ins_all {lt : Nat → Prop} {dec : ∀ j, Decidable (lt j)} {i : Nat} : ∀ r : List Nat, (∀ j, j ∈ r → ¬ lt j) → ab_ins lt dec i r = i :: r := by
  intro r
  cases r with
  | nil => intro _; rfl
  | cons j r => intro h; unfold ab_ins; rw [if_neg (h j List.mem_cons_self)]
theorem ab_ins_in {p : Nat → Bool} {i : Nat} (hi : ab_wb W E i) (hp : p i = true) : ∀ r : List Nat, (∀ j, j ∈ r → ab_wb W E j) → r.Pairwise (fun j x => ¬ ab_lt W E j x) → (ab_ins (ab_lt W E i) (ab_ltd W E i) i r).filter p = ab_ins (ab_lt W E i) (ab_ltd W E i) i (r.filter p) := by
  intro r
  induction r with
  | nil => intro _ _; unfold ab_ins; rw [List.filter_cons, hp]; rfl
  | cons j r ih =>
    intro hb hs
    have hs' := List.pairwise_cons.mp hs
    have ih' := ih (fun k hk => hb k (List.mem_cons_of_mem _ hk)) hs'.2
    conv => lhs; unfold ab_ins
    by_cases c : ab_lt W E i j
    · rw [if_pos c, List.filter_cons, List.filter_cons, ih']
      cases p j
      · rfl
      · show j :: _ = _
        conv => rhs; rw [if_pos rfl]; unfold ab_ins
        rw [if_pos c]
    · rw [if_neg c, List.filter_cons, if_pos hp]
      rw [ab_ins_all]
      intro x hx
      have hx' := (List.mem_filter.mp hx).1
      rcases List.mem_cons.mp hx' with e | e
      · subst e; exact c
      · exact ab_lt_tr hi (hb j List.mem_cons_self) (hb x hx') c (hs'.1 x e)
/-- the candidates with their floors reached are those of the weights with floors -/
theorem ab_cl_fl {W' : Nat → Int64} {p : Nat → Bool} {lo : Int32} : ∀ m : Nat, (∀ i, i < m → 0 < W i → ab_wb W E i) → (∀ i, i < m → W' i = if p i = true then W i else 0) → ab_cl W' E lo m = (ab_cl W E lo m).filter p := by
  intro m
  induction m with
  | zero => intro _ _; rfl
  | succ m ih =>
    intro h hw
    have ih' := ih (fun i hi => h i (by omega)) (fun i hi => hw i (by omega))
    have so := ab_cl_so (lo := lo) m (fun i hi => h i (by omega))
    have hm := hw m (by omega)
    have hbl : ∀ j, j ∈ ab_cl W E lo m → ab_wb W E j := fun j hj => h j (by have := (ab_cl_lt _ _ hj).1; omega) (ab_cl_lt _ _ hj).2.2
    conv => lhs; unfold ab_cl
    conv => rhs; unfold ab_cl
    cases hp : p m
    · rw [hp, if_neg (by decide)] at hm
      rw [hm, if_neg (fun w => Int64.lt_irrefl w.2), ih']
      split
      · exact (ab_ins_out hp _).symm
      · rfl
    · rw [hp, if_pos rfl] at hm
      rw [hm]
      by_cases c : ¬ nI m = lo ∧ 0 < W m
      · rw [if_pos c, if_pos c, ab_ins_in (h m (by omega) c.2) hp _ hbl so, ih']
        refine ab_ins_c _ (fun j hj => ?_)
        obtain ⟨j1, j2⟩ := List.mem_filter.mp hj
        have hjm := (ab_cl_lt _ _ j1).1
        have hwj := hw j (by omega)
        rw [j2, if_pos rfl] at hwj
        unfold ab_lt
        rw [hwj, hm]
      · rw [if_neg c, if_neg c, ih']
/-- what is taken in only grows -/
theorem ab_tl_v : ∀ (l : List Nat) (e v : Int64) (s : Int32) (B : Int), (∀ i, i ∈ l → 0 ≤ (W i).toInt ∧ (W i).toInt ≤ 10496550240) → 1 ≤ v.toInt → v.toInt + 10496550240 * l.length ≤ 9223372036854775807 → 1 ≤ (ab_tl W E l e v s).2.2.2.toInt := by
  intro l
  induction l with
  | nil => intro e v s B _ h1 _; exact h1
  | cons i l ih =>
    intro e v s B hb h1 h2
    unfold ab_tl
    split
    · obtain ⟨b1, b2⟩ := hb i List.mem_cons_self
      rw [List.length_cons] at h2
      have e1 := i6_add (x := v) (y := W i) (by omega) (by omega)
      exact ih _ _ _ B (fun k hk => hb k (List.mem_cons_of_mem _ hk)) (by omega) (by omega)
    · exact h1
end PU5
section PU6
variable {Y : Nat → Nat → Int32} {n N a b : Nat} {lo : Int32}
theorem ab_W_wb (h : ab_wf Y n N) (hab : a ≤ b) (hb : b < 4) : ∀ i, i < N → 0 < ab_W Y n a b i → ab_wb (ab_W Y n a b) (ab_E Y a b) i := by
  intro i hi h0
  have h1 := ab_aw_b h hi hab hb
  have h2 := ab_ae_b h hi hab hb
  rw [i6_lt] at h0
  exact ⟨h0, h1.2, h2.1, h2.2.1⟩
theorem ab_WM_p (h : ab_wf Y n N) (hab : a ≤ b) (hb : b < 4) : ∀ i, i < N → ab_WM Y n a b i = if decide (¬ ab_e Y 0 b < ab_ff Y i) = true then ab_W Y n a b i else 0 := by
  intro i hi
  show ab_awM Y n i a b = _
  rw [ab_awM_e h hi hab hb]
  by_cases c : ab_e Y 0 b < ab_ff Y i
  · rw [if_pos c, if_neg (by rw [decide_eq_true_eq]; exact fun w => w c)]
  · rw [if_neg c, if_pos (by rw [decide_eq_true_eq]; exact c)]; rfl
theorem ab_LM_L (h : ab_wf Y n N) (hab : a ≤ b) (hb : b < 4) : ab_LM Y n N a b lo = ab_L Y n N a b lo (ab_e Y 0 b) := by
  unfold ab_LM ab_L ab_rl
  rw [ab_cl_fl (p := fun i => decide (¬ ab_e Y 0 b < ab_ff Y i)) N (ab_W_wb h hab hb) (ab_WM_p h hab hb), List.filter_reverse]
theorem ab_TM_T (h : ab_wf Y n N) (hab : a ≤ b) (hb : b < 4) : ab_TM Y n N a b lo = ab_T Y n N a b lo (ab_e Y a b) (ab_e Y 0 b) := by
  unfold ab_TM ab_T
  rw [ab_LM_L h hab hb, ab_V_M h hab hb, show ab_eM Y a b = ab_e Y a b from (ab_e_M h hb hab).1]
  refine ab_tl_c _ _ _ _ (fun i hi => ⟨?_, rfl⟩)
  have hm := ab_rl_mem hi
  rw [ab_WM_p h hab hb i hm, if_pos]
  exact (List.mem_filter.mp hi).2
theorem ab_rl_len {W E F : Nat → Int64} {re : Int64} : (ab_rl W E F lo N re).length ≤ N := by
  unfold ab_rl
  have h1 := List.length_filter_le (fun j => decide (¬ re < F j)) (ab_cl W E lo N).reverse
  rw [List.length_reverse] at h1
  have h2 := ab_cl_len (Wf := W) (Ef := E) (lo := lo) N
  omega
theorem ab_T_v (h : ab_wf Y n N) (hab : a ≤ b) (hb : b < 4) {e re : Int64} : 1 ≤ (ab_T Y n N a b lo e re).2.2.2.toInt := by
  obtain ⟨v1, v2⟩ := ab_V_b h hab hb
  have hl : (ab_L Y n N a b lo re).length ≤ N := ab_rl_len
  have h8 := h.N8
  exact ab_tl_v _ _ _ _ 0 (fun i hi => ab_aw_b h (ab_rl_mem hi) hab hb) v1 (by omega)
theorem i6_neg_xor {x v : Int64} (hv : 1 ≤ v.toInt) : (x ^^^ v < 0) ↔ x < 0 := by
  have hm : ∀ y : Int64, y < 0 ↔ y.toBitVec.msb = true := by
    intro y
    rw [Int64.lt_iff_toBitVec_slt]
    show y.toBitVec.slt 0#64 = true ↔ _
    rw [BitVec.slt_zero_eq_msb]
  have hv0 : v.toBitVec.msb = false := by
    cases c : v.toBitVec.msb
    · rfl
    · have := (hm v).mpr c
      rw [i6_lt] at this
      have z : (0 : Int64).toInt = 0 := rfl
      omega
  rw [hm, hm, Int64.toBitVec_xor, BitVec.msb_xor, hv0, Bool.xor_false]
theorem i6_tdiv {x y : Int64} (h1 : 1 ≤ y.toInt) : (x / y).toInt = x.toInt.tdiv y.toInt := by
  rw [Int64.toInt_div]
  have g3 := x.toInt_lt
  have g4 := x.le_toInt
  by_cases c : 0 ≤ x.toInt
  · rw [Int.tdiv_eq_ediv_of_nonneg c]
    have g1 : x.toInt / y.toInt ≤ x.toInt := Int.ediv_le_self _ c
    have g2 : 0 ≤ x.toInt / y.toInt := Int.ediv_nonneg c (by omega)
    rw [Int.bmod_def]; omega
  · have e : x.toInt.tdiv y.toInt = -((-x.toInt) / y.toInt) := by
      have := Int.neg_tdiv (a := -x.toInt) (b := y.toInt)
      rw [Int.neg_neg, Int.tdiv_eq_ediv_of_nonneg (a := -x.toInt) (by omega)] at this
      exact this
    have g1 : (-x.toInt) / y.toInt ≤ -x.toInt := Int.ediv_le_self _ (by omega)
    have g2 : 0 ≤ (-x.toInt) / y.toInt := Int.ediv_nonneg (by omega) (by omega)
    rw [e, Int.bmod_def]; omega
/-- rounding down: two ways -/
theorem ab_fd_e {x v : Int64} (hv : 1 ≤ v.toInt) : ab_fd x v = if x < x / v * v then x / v - 1 else x / v := by
  unfold ab_fd
  have g3 := x.toInt_lt
  have g4 := x.le_toInt
  have q := i6_tdiv (x := x) hv
  have z : (0 : Int64).toInt = 0 := rfl
  by_cases c : 0 ≤ x.toInt
  · have e1 : ¬ x ^^^ v < 0 := by rw [i6_neg_xor hv, i6_lt, z]; omega
    rw [Int.tdiv_eq_ediv_of_nonneg c] at q
    have m1 : x.toInt / v.toInt * v.toInt ≤ x.toInt := Int.ediv_mul_le _ (by omega)
    have m2 : 0 ≤ x.toInt / v.toInt * v.toInt := im_nn (Int.ediv_nonneg c (by omega)) (by omega)
    have e2 : (x / v * v).toInt = x.toInt / v.toInt * v.toInt := by rw [i6_mul (by rw [q]; omega) (by rw [q]; omega), q]
    rw [if_neg e1, if_neg (by rw [i6_lt, e2]; omega)]
  · have e1 : x ^^^ v < 0 := by rw [i6_neg_xor hv, i6_lt, z]; omega
    have e : x.toInt.tdiv v.toInt = -((-x.toInt) / v.toInt) := by
      have := Int.neg_tdiv (a := -x.toInt) (b := v.toInt)
      rw [Int.neg_neg, Int.tdiv_eq_ediv_of_nonneg (a := -x.toInt) (by omega)] at this
      exact this
    rw [e] at q
    have m1 : (-x.toInt) / v.toInt * v.toInt ≤ -x.toInt := Int.ediv_mul_le _ (by omega)
    have m2 : 0 ≤ (-x.toInt) / v.toInt * v.toInt := im_nn (Int.ediv_nonneg (by omega) (by omega)) (by omega)
    have e2 : (x / v * v).toInt = -((-x.toInt) / v.toInt * v.toInt) := by rw [i6_mul (by rw [q, Int.neg_mul]; omega) (by rw [q, Int.neg_mul]; omega), q, Int.neg_mul]
    rw [if_pos e1]
    by_cases c2 : x / v * v = x
    · rw [if_pos c2, c2, if_neg Int64.lt_irrefl]
    · have c3 : ¬ (x / v * v).toInt = x.toInt := fun w => c2 (Int64.toInt_inj.mp w)
      rw [if_neg c2, if_pos (by rw [i6_lt, e2]; omega)]
theorem ab_as_sh (hab : a ≤ b) (hb : b < 4) {e v : Int64} (hv : 1 ≤ v.toInt) : ab_as e v (ab_rd a b) = ab_sh_ e v (nI a) (nI b) := by
  have hd : (ab_rd a b).toInt64 = 90 * (nI b - nI a + 1).toInt64 := by
    unfold ab_rd
    rw [pk_sub hab, nI_1]
    have : b - a + 1 = 1 ∨ b - a + 1 = 2 ∨ b - a + 1 = 3 ∨ b - a + 1 = 4 := by omega
    rcases this with g | g | g | g <;> rw [g] <;> rfl
  have z : (0 : Int64).toInt = 0 := rfl
  unfold ab_as ab_sh_
  rw [if_pos (by rw [i6_lt, z]; omega), hd, ab_fd_e hv]
theorem ab_dilM_e (h : ab_wf Y n N) (hab : a ≤ b) (hb : b < 4) : ab_dilM Y n N a b lo = ab_dil Y n N a b lo := by
  unfold ab_dilM ab_dil
  rw [ab_TM_T h hab hb, ab_as_sh hab hb (ab_T_v h hab hb)]
/-- a sum over a set: what has no weight has no earnings either -/
theorem ab_sum_b {f : Nat → Int64} {s : Int32} (B : Int) (hB : 0 ≤ B) (hB2 : B ≤ 1000000000000) (hf : ∀ i, i < 8 → ab_bit s i → 0 ≤ (f i).toInt ∧ (f i).toInt ≤ B) : ∀ (m k : Nat) (c : Int64), k + m = 8 → 1 ≤ c.toInt → c.toInt + B * m ≤ 1000000000000000 → 1 ≤ (ab_sum s f m k c).toInt := by
  intro m
  induction m with
  | zero => intro k c _ h1 _; exact h1
  | succ m ih =>
    intro k c hk h1 h2
    unfold ab_sum
    rw [show B * ((m + 1 : Nat) : Int) = B * m + B by rw [show ((m + 1 : Nat) : Int) = (m : Int) + 1 from rfl, Int.mul_add, Int.mul_one]] at h2
    have hBm : 0 ≤ B * m := im_nn hB (by omega)
    by_cases c1 : ab_bit s k
    · obtain ⟨f1, f2⟩ := hf k (by omega) c1
      rw [if_pos c1]
      have e := i6_add (x := c) (y := f k) (by omega) (by omega)
      exact ih _ _ (by omega) (by omega) (by omega)
    · rw [if_neg c1]
      exact ih _ _ (by omega) h1 (by omega)
end PU6
