/-! PURE 3: weights by stretches and by days, what instruments add -/
theorem w_add {x y : Int32} (h1 : -2147483648 ≤ x.toInt + y.toInt) (h2 : x.toInt + y.toInt ≤ 2147483647) : (x + y).toInt64 = x.toInt64 + y.toInt64 :=
  Int64.toInt_inj.mp (by rw [i3_w, i3_add h1 h2, i6_add (by rw [i3_w, i3_w]; omega) (by rw [i3_w, i3_w]; omega), i3_w, i3_w])
theorem w_sub {x y : Int32} (h1 : -2147483648 ≤ x.toInt - y.toInt) (h2 : x.toInt - y.toInt ≤ 2147483647) : (x - y).toInt64 = x.toInt64 - y.toInt64 :=
  Int64.toInt_inj.mp (by rw [i3_w, i3_sub h1 h2, i6_sub (by rw [i3_w, i3_w]; omega) (by rw [i3_w, i3_w]; omega), i3_w, i3_w])
theorem ab_er_ei {p : Nat → Int32} (hp : ∀ q, q < 4 → ab_I (p q) (-99999) 99999) : ∀ (m q : Nat) (c : Int32), q + m ≤ 4 → -(99999 * (q : Int)) ≤ c.toInt → c.toInt ≤ 99999 * q → ab_er p m q c.toInt64 = (ab_ei p m q c).toInt64 ∧ -399996 ≤ (ab_ei p m q c).toInt ∧ (ab_ei p m q c).toInt ≤ 399996 := by
  intro m
  induction m with
  | zero => intro q c _ h1 h2; exact ⟨rfl, by unfold ab_ei; omega, by unfold ab_ei; omega⟩
  | succ m ih =>
    intro q c hq h1 h2
    obtain ⟨p1, p2⟩ := hp q (by omega)
    unfold ab_er ab_ei
    rw [← w_add (by omega) (by omega)]
    exact ih (q + 1) (c + p q) (by omega) (by rw [i3_add (by omega) (by omega)]; omega) (by rw [i3_add (by omega) (by omega)]; omega)
section PU4
variable {Y : Nat → Nat → Int32} {n N : Nat}
theorem ab_e_M (h : ab_wf Y n N) {a b : Nat} (hb : b < 4) (hab : a ≤ b) : (ab_ei (Y 1) (b + 1 - a) a 0).toInt64 = ab_e Y a b ∧ -399996 ≤ (ab_ei (Y 1) (b + 1 - a) a 0).toInt ∧ (ab_ei (Y 1) (b + 1 - a) a 0).toInt ≤ 399996 := by
  have z : (0 : Int32).toInt = 0 := rfl
  have := ab_er_ei (fun q hq => (h.iq q hq).1) (b + 1 - a) a 0 (by omega) (by omega) (by omega)
  exact ⟨this.1.symm, this.2⟩
theorem i6_div {x y : Int64} (h0 : 0 ≤ x.toInt) (h1 : 1 ≤ y.toInt) : (x / y).toInt = x.toInt / y.toInt := by
  rw [Int64.toInt_div, Int.tdiv_eq_ediv_of_nonneg h0]
  have g1 : x.toInt / y.toInt ≤ x.toInt := Int.ediv_le_self _ h0
  have g2 : 0 ≤ x.toInt / y.toInt := Int.ediv_nonneg h0 (by omega)
  have g3 := x.toInt_lt
  rw [Int.bmod_def]; omega
theorem ab_op_b (h : ab_wf Y n N) {i q : Nat} (hi : i < N) (hq : q < 4) : ab_opM Y n i q = ab_op Y n i q ∧ 0 ≤ (ab_op Y n i q).toInt ∧ (ab_op Y n i q).toInt ≤ 2624137560 := by
  obtain ⟨p1, p2⟩ := ab_pr_b h (i := i) hq
  obtain ⟨o1, o2⟩ := ab_old_b h hi
  obtain ⟨-, hd, -, ⟨t1, t2⟩⟩ := h.ii i hi
  obtain ⟨d1, d2⟩ := ab_dc_b hd (Nat.le_refl q) hq
  have z : (0 : Int64).toInt = 0 := rfl
  have z3 : (0 : Int32).toInt = 0 := rfl
  have s1 : (ab_pr Y n i q - Y 11 i).toInt = (ab_pr Y n i q).toInt - (Y 11 i).toInt := i3_sub (by omega) (by omega)
  have s2 : (ab_pr Y n i q - Y 11 i).toInt64 = (ab_pr Y n i q).toInt64 - (Y 11 i).toInt64 := w_sub (by omega) (by omega)
  have s3 : ((ab_pr Y n i q).toInt64 - (Y 11 i).toInt64).toInt = (ab_pr Y n i q).toInt - (Y 11 i).toInt := by rw [← s2, i3_w, s1]
  unfold ab_opM ab_op
  rw [s2]
  by_cases c : 0 < ab_pr Y n i q - Y 11 i
  · have c' : 0 < (ab_pr Y n i q).toInt64 - (Y 11 i).toInt64 := by rw [i6_lt, s3, z]; rw [i3_lt, s1, z3] at c; exact c
    have c2 : 0 < (ab_pr Y n i q).toInt64 := by rw [i6_lt, i3_w, z]; omega
    rw [if_pos c, if_pos c', if_pos c2]
    rw [i3_lt, s1, z3] at c
    refine ⟨rfl, ?_⟩
    have m1 : 0 ≤ (ab_old Y n i).toInt * (ab_dc (Y 9 i) (nI q) (nI q)).toInt := im_nn (by omega) d1
    have m2 : (ab_old Y n i).toInt * (ab_dc (Y 9 i) (nI q) (nI q)).toInt ≤ 7289271 * 360 := Int.mul_le_mul o2 d2 d1 (by omega)
    have e1 : ((ab_old Y n i).toInt64 * (ab_dc (Y 9 i) (nI q) (nI q)).toInt64).toInt = (ab_old Y n i).toInt * (ab_dc (Y 9 i) (nI q) (nI q)).toInt := by
      rw [i6_mul (by rw [i3_w, i3_w]; omega) (by rw [i3_w, i3_w]; omega), i3_w, i3_w]
    generalize hM : (ab_old Y n i).toInt * (ab_dc (Y 9 i) (nI q) (nI q)).toInt = M at *
    have m3 : 0 ≤ M * ((ab_pr Y n i q).toInt - (Y 11 i).toInt) := im_nn m1 (by omega)
    have m4 : M * ((ab_pr Y n i q).toInt - (Y 11 i).toInt) ≤ M * (ab_pr Y n i q).toInt := im_le' (by omega) m1
    have m5 : M * (ab_pr Y n i q).toInt ≤ 7289271 * 360 * 7289271 := Int.mul_le_mul m2 p2 (by omega) (by omega)
    have e2 : ((ab_old Y n i).toInt64 * (ab_dc (Y 9 i) (nI q) (nI q)).toInt64 * ((ab_pr Y n i q).toInt64 - (Y 11 i).toInt64)).toInt = M * ((ab_pr Y n i q).toInt - (Y 11 i).toInt) := by
      rw [i6_mul (by rw [e1, s3]; omega) (by rw [e1, s3]; omega), e1, s3]
    rw [i6_div (by rw [e2]; exact m3) (by rw [i3_w]; exact p1), e2, i3_w]
    refine ⟨Int.ediv_nonneg m3 (by omega), ?_⟩
    have := Int.ediv_le_of_le_mul (show 0 < (ab_pr Y n i q).toInt by omega) m4
    omega
  · have c' : ¬ 0 < (ab_pr Y n i q).toInt64 - (Y 11 i).toInt64 := by rw [i6_lt, s3, z]; rw [i3_lt, s1, z3] at c; exact c
    rw [if_neg c, if_neg c']
    exact ⟨rfl, by rw [z]; omega, by rw [z]; omega⟩
theorem ab_ops_b (h : ab_wf Y n N) {i : Nat} (hi : i < N) : ∀ (m q : Nat) (c : Int64), q + m ≤ 4 → 0 ≤ c.toInt → c.toInt ≤ 2624137560 * q → ab_opsM Y n i m q c = ab_ops Y n i m q c ∧ 0 ≤ (ab_ops Y n i m q c).toInt ∧ (ab_ops Y n i m q c).toInt ≤ 10496550240 := by
  intro m
  induction m with
  | zero => intro q c hq h0 h1; exact ⟨rfl, h0, by unfold ab_ops; omega⟩
  | succ m ih =>
    intro q c hq h0 h1
    obtain ⟨a1, a2, a3⟩ := ab_op_b h hi (show q < 4 by omega)
    unfold ab_opsM ab_ops
    rw [a1]
    have e := i6_add (x := c) (y := ab_op Y n i q) (by omega) (by omega)
    exact ih (q + 1) _ (by omega) (by omega) (by omega)
theorem ab_x_b (h : ab_wf Y n N) {i a b : Nat} (hi : i < N) (hab : a ≤ b) (hb : b < 4) : ((ab_old Y n i).toInt64 * (ab_dc (Y 9 i) (nI a) (nI b)).toInt64).toInt = (ab_old Y n i).toInt * (ab_dc (Y 9 i) (nI a) (nI b)).toInt ∧ 0 ≤ (ab_old Y n i).toInt * (ab_dc (Y 9 i) (nI a) (nI b)).toInt ∧ (ab_old Y n i).toInt * (ab_dc (Y 9 i) (nI a) (nI b)).toInt ≤ 2624137560 := by
  obtain ⟨o1, o2⟩ := ab_old_b h hi
  obtain ⟨-, hd, -, -⟩ := h.ii i hi
  obtain ⟨d1, d2⟩ := ab_dc_b hd hab hb
  have m1 : 0 ≤ (ab_old Y n i).toInt * (ab_dc (Y 9 i) (nI a) (nI b)).toInt := im_nn (by omega) d1
  have m2 : (ab_old Y n i).toInt * (ab_dc (Y 9 i) (nI a) (nI b)).toInt ≤ 7289271 * 360 := Int.mul_le_mul o2 d2 d1 (by omega)
  exact ⟨by rw [i6_mul (by rw [i3_w, i3_w]; omega) (by rw [i3_w, i3_w]; omega), i3_w, i3_w], m1, by omega⟩
theorem ab_aw_b (h : ab_wf Y n N) {i a b : Nat} (hi : i < N) (hab : a ≤ b) (hb : b < 4) : 0 ≤ (ab_aw Y n i a b).toInt ∧ (ab_aw Y n i a b).toInt ≤ 10496550240 := by
  obtain ⟨x1, x2, x3⟩ := ab_x_b h hi hab hb
  have z : (0 : Int64).toInt = 0 := rfl
  unfold ab_aw
  split
  · exact (ab_ops_b h hi (b + 1 - a) a 0 (by omega) (by rw [z]; omega) (by rw [z]; omega)).2
  · split
    · rw [z]; omega
    · rw [x1]; omega
/-- with its floor unreached an instrument adds nothing -/
theorem ab_awM_e (h : ab_wf Y n N) {i a b : Nat} (hi : i < N) (hab : a ≤ b) (hb : b < 4) : ab_awM Y n i a b = if ab_e Y 0 b < ab_ff Y i then 0 else ab_aw Y n i a b := by
  obtain ⟨e1, e2, e3⟩ := ab_e_M h (a := 0) hb (by omega)
  obtain ⟨⟨s1, s2⟩, -, -, ⟨t1, t2⟩⟩ := h.ii i hi
  have z : (0 : Int64).toInt = 0 := rfl
  have zf : (-1000000000 : Int64).toInt = -1000000000 := rfl
  rw [show b + 1 - 0 = b + 1 from rfl] at e1 e2 e3
  have hf : ab_ff Y i = if Y 8 i = 2 then (Y 11 i).toInt64 else -1000000000 := rfl
  unfold ab_awM ab_aw
  have noff : ¬ Y 8 i = 2 → ¬ ab_e Y 0 b < ab_ff Y i := by
    intro c; rw [hf, if_neg c, ← e1, i6_lt, i3_w, zf]; omega
  by_cases c0 : Y 8 i = 0
  · rw [if_pos c0, if_neg (noff (by rw [c0]; decide)), if_pos c0]
    exact (ab_ops_b h hi (b + 1 - a) a 0 (by omega) (by rw [z]; omega) (by rw [z]; omega)).1
  · rw [if_neg c0, if_neg c0]
    by_cases c1 : Y 8 i = 1
    · rw [if_pos c1, if_neg (noff (by rw [c1]; decide)), if_neg (fun w => absurd w.1 (by rw [c1]; decide))]
    · rw [if_neg c1]
      by_cases c2 : Y 8 i = 2
      · rw [if_pos c2, hf, if_pos c2, ← e1, if_neg (show ¬ (Y 8 i = 3 ∧ ab_pr Y n i b < Y 11 i) from fun w => absurd w.1 (by rw [c2]; decide))]
        by_cases c5 : ab_ei (Y 1) (b + 1) 0 0 < Y 11 i
        · rw [if_pos c5, if_pos (by rw [i6_lt, i3_w, i3_w]; exact i3_lt.mp c5)]
        · rw [if_neg c5, if_neg (by rw [i6_lt, i3_w, i3_w]; exact fun w => c5 (i3_lt.mpr w))]
      · have c3 : Y 8 i = 3 := by
          apply i3_eq
          have q0 : ¬ (Y 8 i).toInt = 0 := fun w => c0 (i3_eq w)
          have q1 : ¬ (Y 8 i).toInt = 1 := fun w => c1 (i3_eq w)
          have q2 : ¬ (Y 8 i).toInt = 2 := fun w => c2 (i3_eq w)
          show (Y 8 i).toInt = 3
          omega
        rw [if_neg c2, if_neg (noff c2)]
        by_cases c4 : ab_pr Y n i b < Y 11 i
        · rw [if_pos c4, if_pos ⟨c3, c4⟩]
        · rw [if_neg c4, if_neg (fun w => c4 w.2)]
theorem ab_awM_b (h : ab_wf Y n N) {i a b : Nat} (hi : i < N) (hab : a ≤ b) (hb : b < 4) : 0 ≤ (ab_awM Y n i a b).toInt ∧ (ab_awM Y n i a b).toInt ≤ 10496550240 := by
  rw [ab_awM_e h hi hab hb]
  split
  · exact ⟨by decide, by decide⟩
  · exact ab_aw_b h hi hab hb
theorem ab_ae_b (h : ab_wf Y n N) {i a b : Nat} (hi : i < N) (hab : a ≤ b) (hb : b < 4) : 0 ≤ (ab_ae Y i a b).toInt ∧ (ab_ae Y i a b).toInt ≤ 99999 ∧ (ab_awM Y n i a b = 0 → ab_ae Y i a b = 0) := by
  obtain ⟨o1, o2⟩ := ab_old_b h hi
  obtain ⟨-, hd, -, ⟨t1, t2⟩⟩ := h.ii i hi
  obtain ⟨d1, d2⟩ := ab_dc_b hd hab hb
  obtain ⟨x1, x2, x3⟩ := ab_x_b h hi hab hb
  have z : (0 : Int64).toInt = 0 := rfl
  unfold ab_ae
  by_cases c : Y 8 i = 1
  · rw [if_pos c]
    have m1 : 0 ≤ (Y 11 i).toInt * (ab_dc (Y 9 i) (nI a) (nI b)).toInt := im_nn t1 d1
    have m2 : (Y 11 i).toInt * (ab_dc (Y 9 i) (nI a) (nI b)).toInt ≤ 99999 * 360 := Int.mul_le_mul t2 d2 d1 (by omega)
    have e1 : ((Y 11 i).toInt64 * (ab_dc (Y 9 i) (nI a) (nI b)).toInt64).toInt = (Y 11 i).toInt * (ab_dc (Y 9 i) (nI a) (nI b)).toInt := by
      rw [i6_mul (by rw [i3_w, i3_w]; omega) (by rw [i3_w, i3_w]; omega), i3_w, i3_w]
    have e2 : ((Y 11 i).toInt64 * (ab_dc (Y 9 i) (nI a) (nI b)).toInt64 / 360).toInt = (Y 11 i).toInt * (ab_dc (Y 9 i) (nI a) (nI b)).toInt / 360 := by
      rw [i6_div (by rw [e1]; exact m1) (by decide), e1]; rfl
    refine ⟨by rw [e2]; omega, by rw [e2]; omega, fun w => ?_⟩
    unfold ab_awM at w
    rw [if_neg (by rw [c]; decide), if_pos c] at w
    have w2 : (ab_old Y n i).toInt * (ab_dc (Y 9 i) (nI a) (nI b)).toInt = 0 := by rw [← x1, w]; rfl
    have w3 : (ab_dc (Y 9 i) (nI a) (nI b)).toInt = 0 := by
      rcases Int.mul_eq_zero.mp w2 with g | g
      · omega
      · exact g
    apply Int64.toInt_inj.mp
    rw [e2, w3, Int.mul_zero]; rfl
  · rw [if_neg c]
    exact ⟨by rw [z]; omega, by rw [z]; omega, fun _ => rfl⟩
/-- restated shares hang on which events lie behind a day -/
theorem ab_sh_D {s d u : Nat → Int32} {D D' : Int32} (hD : ∀ j, j < n → (D < d j ↔ D' < d j)) : ∀ (m k : Nat) (c : Int32), k + m = n → ab_sh s d u D m k c = ab_sh s d u D' m k c := by
  intro m
  induction m with
  | zero => intro k c _; rfl
  | succ m ih =>
    intro k c hk
    unfold ab_sh
    rw [ih _ _ (by omega)]
    by_cases e : D < d k
    · rw [if_pos e, if_pos ((hD k (by omega)).mp e)]
    · rw [if_neg e, if_neg (fun w => e ((hD k (by omega)).mpr w))]
theorem ab_sp_D {s d u : Nat → Int32} {D D' B : Int32} (hD : ∀ j, j < n → (D < d j ↔ D' < d j)) : ∀ (m k : Nat) (c : Int32), k + m = n → ab_sp s d u D B m k c = ab_sp s d u D' B m k c := by
  intro m
  induction m with
  | zero => intro k c _; rfl
  | succ m ih =>
    intro k c hk
    unfold ab_sp
    rw [ih _ _ (by omega)]
    by_cases e : D < d k
    · rw [if_pos e, if_pos ((hD k (by omega)).mp e)]
    · rw [if_neg e, if_neg (fun w => e ((hD k (by omega)).mpr w))]
theorem ab_rs_D {D D' : Int32} (hD : ∀ j, j < n → (D < Y 5 j ↔ D' < Y 5 j)) : ab_rs Y n D = ab_rs Y n D' := by
  unfold ab_rs
  rw [ab_sh_D hD n 0 _ (by omega), ab_sp_D hD n 0 _ (by omega)]
theorem ab_wd_add (t2 : Nat) : ∀ (t1 d : Nat) (c : Int64), ab_wd Y n (t1 + t2) d c = ab_wd Y n t2 (d + t1) (ab_wd Y n t1 d c) := by
  intro t1
  induction t1 with
  | zero => intro d c; rw [Nat.zero_add]; rfl
  | succ t1 ih =>
    intro d c
    rw [show t1 + 1 + t2 = (t1 + t2) + 1 by omega]
    conv => lhs; unfold ab_wd
    rw [ih, show d + 1 + t1 = d + (t1 + 1) by omega]
    rfl
theorem lN_s (t : Nat) : lN (t + 1) = lN t + 1 := by
  apply Int64.toBitVec_inj.mp
  show (Int64.ofNat (t + 1)).toBitVec = (Int64.ofNat t).toBitVec + 1
  simp [Int64.toBitVec_ofNat', BitVec.ofNat_add]
theorem ab_wd_const {R : Int32} : ∀ (t d : Nat) (c : Int64), (∀ d', d ≤ d' → d' < d + t → ab_rs Y n (nI d') = R) → ab_wd Y n t d c = c + R.toInt64 * lN t := by
  intro t
  induction t with
  | zero => intro d c _; unfold ab_wd; rw [show lN 0 = 0 from rfl, Int64.mul_zero, Int64.add_zero]
  | succ t ih =>
    intro d c h
    unfold ab_wd
    rw [h d (by omega) (by omega), ih (d + 1) _ (fun d' h1 h2 => h d' (by omega) (by omega)), lN_s, Int64.mul_add, Int64.mul_one, Int64.add_assoc, Int64.add_comm R.toInt64]
theorem ab_wt_wd (h : ab_wf Y n N) {e : Nat} (he : e ≤ 360) : ∀ (m k d : Nat) (c : Int64), k + m = n → d ≤ e → (∀ j, j < k → (Y 5 j).toInt ≤ d ∨ e ≤ d) → ab_wt Y n (nI e) m k (nI d) c = ab_wd Y n (e - d) d c := by
  intro m
  induction m with
  | zero =>
    intro k d c hk hd hj
    unfold ab_wt
    rw [pk_sub hd, nI_l (by omega)]
    refine (ab_wd_const (e - d) d c (fun d' h1 h2 => ab_rs_D (fun j hjn => ?_))).symm
    have := hj j (by omega)
    rw [i3_lt, i3_lt, nI_toInt (by omega), nI_toInt (by omega)]
    omega
  | succ m ih =>
    intro k d c hk hd hj
    obtain ⟨-, ⟨y1, y2⟩, -⟩ := h.ik k (by omega)
    have hY : Y 5 k = nI (Y 5 k).toInt.toNat := by
      apply i3_eq; rw [nI_toInt (by omega)]; omega
    have ech : ab_mn (Y 5 k) (nI e) = nI (min (Y 5 k).toInt.toNat e) := by
      unfold ab_mn
      by_cases c : nI e < Y 5 k
      · rw [if_pos c]
        rw [i3_lt, nI_toInt (by omega)] at c
        congr 1; omega
      · rw [if_neg c, hY]
        rw [i3_lt, nI_toInt (by omega)] at c
        rw [nI_toInt (by omega)]
        congr 1; omega
    unfold ab_wt
    rw [ech]
    by_cases cc : nI d < nI (min (Y 5 k).toInt.toNat e)
    · rw [if_pos cc]
      rw [nI_ltI (by omega) (by omega)] at cc
      rw [ih (k + 1) _ _ (by omega) (by omega) (fun j hjk => by
        by_cases ej : j = k
        · subst ej; omega
        · have := hj j (by omega); omega)]
      rw [pk_sub (by omega), nI_l (by omega)]
      rw [show e - d = (min (Y 5 k).toInt.toNat e - d) + (e - min (Y 5 k).toInt.toNat e) by omega, ab_wd_add]
      rw [show d + (min (Y 5 k).toInt.toNat e - d) = min (Y 5 k).toInt.toNat e by omega]
      congr 1
      refine (ab_wd_const _ d c (fun d' h1 h2 => ab_rs_D (fun j hjn => ?_))).symm
      rw [i3_lt, i3_lt, nI_toInt (by omega), nI_toInt (by omega)]
      by_cases ej : j < k
      · have := hj j ej; omega
      · have := h.so k j (by omega) hjn; omega
    · rw [if_neg cc]
      rw [nI_ltI (by omega) (by omega)] at cc
      refine ih (k + 1) d _ (by omega) hd (fun j hjk => ?_)
      by_cases ej : j = k
      · subst ej; omega
      · exact hj j (by omega)
theorem ab_V_M (h : ab_wf Y n N) {a b : Nat} (hab : a ≤ b) (hb : b < 4) : ab_VM Y n a b = ab_V Y n a b := by
  unfold ab_VM ab_V
  have e1 : (nI b + 1) * 90 = nI (90 * b + 90) := by
    rw [nI_1, show (90 : Int32) = nI 90 from rfl, pk_mul]; congr 1; omega
  have e2 : nI a * 90 = nI (90 * a) := by
    rw [show (90 : Int32) = nI 90 from rfl, pk_mul]; congr 1; omega
  rw [e1, e2, ab_wt_wd h (by omega) n 0 (90 * a) 0 (by omega) (by omega) (fun j hj => by omega)]
theorem ab_wd_b (h : ab_wf Y n N) : ∀ (m d : Nat) (c : Int64), m ≤ 360 → 0 ≤ c.toInt → c.toInt ≤ 1530884691 * (360 - m) → m ≤ (ab_wd Y n m d c).toInt - c.toInt ∧ (ab_wd Y n m d c).toInt ≤ 551118488760 := by
  intro m
  induction m with
  | zero => intro d c _ h0 h1; unfold ab_wd; omega
  | succ m ih =>
    intro d c hm h0 h1
    unfold ab_wd
    obtain ⟨r1, r2⟩ := ab_rs_b h (nI d)
    have e := i6_add (x := c) (y := (ab_rs Y n (nI d)).toInt64) (by rw [i3_w]; omega) (by rw [i3_w]; omega)
    rw [i3_w] at e
    have := ih (d + 1) (c + (ab_rs Y n (nI d)).toInt64) (by omega) (by omega) (by omega)
    omega
theorem ab_V_b (h : ab_wf Y n N) {a b : Nat} (hab : a ≤ b) (hb : b < 4) : 1 ≤ (ab_V Y n a b).toInt ∧ (ab_V Y n a b).toInt ≤ 551118488760 := by
  rw [← ab_V_M h hab hb]
  unfold ab_VM
  have z : (0 : Int64).toInt = 0 := rfl
  have := ab_wd_b h (90 * b + 90 - 90 * a) (90 * a) 0 (by omega) (by rw [z]; omega) (by rw [z]; omega)
  omega
end PU4
