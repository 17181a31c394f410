/-! PURE 5: sets, other profits -/
theorem ab_cl_mem {W E : Nat → Int64} {lo : Int32} {k : Nat} : ∀ m : Nat, k < m → ¬ nI k = lo → 0 < W k → k ∈ ab_cl W E lo m := by
  intro m
  induction m with
  | zero => intro h; omega
  | succ m ih =>
    intro h1 h2 h3
    unfold ab_cl
    by_cases e : k = m
    · subst e
      rw [if_pos ⟨h2, h3⟩]
      exact (ab_ins_mem _).mpr (Or.inl rfl)
    · have := ih (by omega) h2 h3
      split
      · exact (ab_ins_mem _).mpr (Or.inr this)
      · exact this
theorem ab_sum_z {t s : Int32} {f g : Nat → Int64} : ∀ (m k : Nat) (c : Int64), (∀ j, k ≤ j → j < k + m → (ab_bit t j → ab_bit s j ∧ f j = g j) ∧ (ab_bit s j → ¬ ab_bit t j → g j = 0)) → ab_sum t f m k c = ab_sum s g m k c := by
  intro m
  induction m with
  | zero => intro k c _; rfl
  | succ m ih =>
    intro k c h
    unfold ab_sum
    have hk := h k (by omega) (by omega)
    have e : (@ite _ (ab_bit t k) (ab_bitd t k) (c + f k) c) = (@ite _ (ab_bit s k) (ab_bitd s k) (c + g k) c) := by
      by_cases h1 : ab_bit t k
      · rw [if_pos h1, if_pos (hk.1 h1).1, (hk.1 h1).2]
      · rw [if_neg h1]
        by_cases h2 : ab_bit s k
        · rw [if_pos h2, hk.2 h2 h1, Int64.add_zero]
        · rw [if_neg h2]
    rw [e]
    exact ih _ _ (fun j h1 h2 => h j (by omega) (by omega))
theorem ab_sum_add2 {s : Int32} {f : Nat → Int64} (m2 : Nat) : ∀ (m1 k : Nat) (c : Int64), ab_sum s f (m1 + m2) k c = ab_sum s f m2 (k + m1) (ab_sum s f m1 k c) := by
  intro m1
  induction m1 with
  | zero => intro k c; rw [Nat.zero_add]; rfl
  | succ m1 ih =>
    intro k c
    rw [show m1 + 1 + m2 = (m1 + m2) + 1 by omega]
    conv => lhs; unfold ab_sum
    rw [ih, show k + 1 + m1 = k + (m1 + 1) by omega]
    rfl
theorem ab_sum_no {s : Int32} {f : Nat → Int64} : ∀ (m k : Nat) (c : Int64), (∀ j, k ≤ j → j < k + m → ¬ ab_bit s j) → ab_sum s f m k c = c := by
  intro m
  induction m with
  | zero => intro k c _; rfl
  | succ m ih =>
    intro k c h
    unfold ab_sum
    rw [if_neg (h k (by omega) (by omega))]
    exact ih _ _ (fun j h1 h2 => h j (by omega) (by omega))
theorem ab_pw {N : Nat} (h : N ≤ 8) : (1 : Int32) <<< (nI N &&& 31) = nI (2 ^ N) := by
  have : N = 0 ∨ N = 1 ∨ N = 2 ∨ N = 3 ∨ N = 4 ∨ N = 5 ∨ N = 6 ∨ N = 7 ∨ N = 8 := by omega
  rcases this with g | g | g | g | g | g | g | g | g <;> subst g <;> rfl
theorem ab_bit_hi {s : Int32} {N j : Nat} (h8 : N ≤ 8) (h0 : ¬ s < 0) (h1 : s < 1 <<< (nI N &&& 31)) (hN : N ≤ j) (hj : j < 8) : ¬ ab_bit s j := by
  rw [ab_pw h8] at h1
  obtain ⟨t, ht, e⟩ := pm_ixN h0 h1 (Nat.lt_of_le_of_lt (Nat.pow_le_pow_right (by omega) h8) (by decide))
  subst e
  rw [ab_bit_bt (by omega)]
  have h3 : 2 ^ N ≤ 2 ^ j := Nat.pow_le_pow_right (by omega) hN
  have h4 : (2 : Nat) ^ j ≤ 2 ^ 8 := Nat.pow_le_pow_right (by omega) (by omega)
  have e2 : bt (nI t) j = t.testBit j := by
    show (Int32.ofNat t).toBitVec.getLsbD j = _
    rw [Int32.toBitVec_ofNat', BitVec.getLsbD_ofNat]
    simp
    omega
  rw [e2, Nat.testBit_lt_two_pow (by omega)]
  decide
section PU7
variable {Y : Nat → Nat → Int32} {n N a b : Nat} {lo : Int32}
/-- the model's set: every one of it, weights with floors -/
def ab_withM (Y : Nat → Nat → Int32) (n N a b : Nat) (s : Int32) : Int32 := ab_sh_ (ab_sum s (ab_E Y a b) N 0 (ab_eM Y a b)) (ab_sum s (ab_WM Y n a b) N 0 (ab_VM Y n a b)) (nI a) (nI b)
theorem ab_withM_v (h : ab_wf Y n N) (hab : a ≤ b) (hb : b < 4) {s : Int32} (h0 : ¬ s < 0) (h1 : s < 1 <<< (nI N &&& 31)) : 1 ≤ (ab_sum s (ab_WM Y n a b) N 0 (ab_VM Y n a b)).toInt := by
  have h8 := h.N8
  obtain ⟨v1, v2⟩ := ab_V_b h hab hb
  have e : ab_sum s (ab_WM Y n a b) 8 0 (ab_VM Y n a b) = ab_sum s (ab_WM Y n a b) N 0 (ab_VM Y n a b) := by
    have := ab_sum_add2 (s := s) (f := ab_WM Y n a b) (8 - N) N 0 (ab_VM Y n a b)
    rw [show N + (8 - N) = 8 by omega] at this
    rw [this]
    exact ab_sum_no _ _ _ (fun j h2 h3 => ab_bit_hi h8 h0 h1 (by omega) (by omega))
  rw [← e, ab_V_M h hab hb]
  refine ab_sum_b 10496550240 (by omega) (by omega) (fun i hi hb2 => ?_) 8 0 _ (by omega) v1 (by omega)
  have hiN : i < N := Classical.byContradiction fun c => ab_bit_hi h8 h0 h1 (by omega) hi hb2
  exact ab_awM_b h hiN hab hb
theorem ab_with_M (h : ab_wf Y n N) (hab : a ≤ b) (hb : b < 4) {s : Int32} (h0 : ¬ s < 0) (h1 : s < 1 <<< (nI N &&& 31)) : ab_withM Y n N a b s = ab_with Y n N a b s := by
  have h8 := h.N8
  have hv := ab_withM_v h hab hb h0 h1
  have hz : ∀ (f : Nat → Int64) (c : Int64), ab_sum s f 8 0 c = ab_sum s f N 0 c := by
    intro f c
    have := ab_sum_add2 (s := s) (f := f) (8 - N) N 0 c
    rw [show N + (8 - N) = 8 by omega] at this
    rw [this]
    exact ab_sum_no _ _ _ (fun j h2 h3 => ab_bit_hi h8 h0 h1 (by omega) (by omega))
  have hL : ∀ i, i ∈ ab_L Y n N a b (-1) (ab_e Y 0 b) → i < 8 := fun i hi => by have := ab_rl_mem hi; omega
  have hbit : ∀ j, j < 8 → (ab_bit (s &&& ab_sl (ab_L Y n N a b (-1) (ab_e Y 0 b)) 0) j ↔ ab_bit s j ∧ j ∈ ab_L Y n N a b (-1) (ab_e Y 0 b)) := by
    intro j hj
    rw [ab_bit_and (by omega), ab_sl_bit hj _ _ hL]
    exact ⟨fun w => ⟨w.1, w.2.resolve_left (ab_bit_0 (by omega))⟩, fun w => ⟨w.1, Or.inr w.2⟩⟩
  have hin : ∀ j, j ∈ ab_L Y n N a b (-1) (ab_e Y 0 b) → ab_W Y n a b j = ab_WM Y n a b j := by
    intro j hj
    rw [ab_WM_p h hab hb j (ab_rl_mem hj), if_pos (List.mem_filter.mp hj).2]
  have hout : ∀ j, j < 8 → ab_bit s j → ¬ j ∈ ab_L Y n N a b (-1) (ab_e Y 0 b) → ab_WM Y n a b j = 0 ∧ ab_E Y a b j = 0 := by
    intro j hj hs hn
    have hjN : j < N := Classical.byContradiction fun c => ab_bit_hi h8 h0 h1 (by omega) hj hs
    have hw : ab_WM Y n a b j = 0 := by
      rw [ab_WM_p h hab hb j hjN]
      by_cases c : ab_e Y 0 b < ab_ff Y j
      · rw [if_neg (by rw [decide_eq_true_eq]; exact fun w => w c)]
      · have cd : decide (¬ ab_e Y 0 b < ab_ff Y j) = true := by rw [decide_eq_true_eq]; exact c
        rw [if_pos cd]
        by_cases c2 : 0 < ab_W Y n a b j
        · exact absurd (List.mem_filter.mpr ⟨List.mem_reverse.mpr (ab_cl_mem N hjN (pm_nem1 (by omega)) c2), cd⟩) hn
        · have := ab_aw_b h hjN hab hb
          rw [i6_lt] at c2
          have z : (0 : Int64).toInt = 0 := rfl
          apply Int64.toInt_inj.mp
          show (ab_aw Y n j a b).toInt = 0
          have c3 : ¬ (0 : Int64).toInt < (ab_aw Y n j a b).toInt := c2
          omega
    exact ⟨hw, (ab_ae_b h hjN hab hb).2.2 hw⟩
  have s1 : ab_sum (s &&& ab_sl (ab_L Y n N a b (-1) (ab_e Y 0 b)) 0) (ab_W Y n a b) 8 0 (ab_V Y n a b) = ab_sum s (ab_WM Y n a b) N 0 (ab_VM Y n a b) := by
    rw [← hz, ab_V_M h hab hb]
    refine ab_sum_z _ _ _ (fun j hj1 hj2 => ⟨fun w => ?_, fun w1 w2 => ?_⟩)
    · have := (hbit j (by omega)).mp w
      exact ⟨this.1, hin j this.2⟩
    · exact (hout j (by omega) w1 (fun w => w2 ((hbit j (by omega)).mpr ⟨w1, w⟩))).1
  have s2 : ab_sum (s &&& ab_sl (ab_L Y n N a b (-1) (ab_e Y 0 b)) 0) (ab_E Y a b) 8 0 (ab_e Y a b) = ab_sum s (ab_E Y a b) N 0 (ab_eM Y a b) := by
    rw [← hz, show ab_eM Y a b = ab_e Y a b from (ab_e_M h hb hab).1]
    refine ab_sum_z _ _ _ (fun j hj1 hj2 => ⟨fun w => ?_, fun w1 w2 => ?_⟩)
    · have := (hbit j (by omega)).mp w
      exact ⟨this.1, rfl⟩
    · exact (hout j (by omega) w1 (fun w => w2 ((hbit j (by omega)).mpr ⟨w1, w⟩))).2
  unfold ab_with ab_withM
  rw [s1, s2, ab_as_sh hab hb hv]
/-- another profit in a quarter -/
theorem ab_er_sh {p : Nat → Int32} {d : Int64} : ∀ (m k : Nat) (c : Int64), ab_er p m k (c + d) = ab_er p m k c + d := by
  intro m
  induction m with
  | zero => intro k c; rfl
  | succ m ih => intro k c; unfold ab_er; rw [Int64.add_assoc, Int64.add_comm d, ← Int64.add_assoc, ih]
theorem ab_er_up {p : Nat → Int32} {q : Nat} {v : Int32} : ∀ (m k : Nat) (c : Int64), ab_er (upd p q v) m k c = if k ≤ q ∧ q < k + m then ab_er p m k c - (p q).toInt64 + v.toInt64 else ab_er p m k c := by
  intro m
  induction m with
  | zero => intro k c; rw [if_neg (by omega)]; rfl
  | succ m ih =>
    intro k c
    unfold ab_er
    by_cases e : k = q
    · subst e
      rw [if_pos (by omega), ih, if_neg (by omega), show upd p k v k = v from pk_us]
      rw [ab_er_sh, ab_er_sh]
      rw [Int64.add_sub_cancel]
    · rw [show upd p q v k = p k from pk_un e, ih]
      by_cases c1 : k + 1 ≤ q ∧ q < k + 1 + m
      · rw [if_pos c1, if_pos (by omega)]
      · rw [if_neg c1, if_neg (by omega)]
theorem ab_e_oth {q : Nat} {v : Int32} (hab : a ≤ b) : ab_e (ab_set Y 1 (upd (Y 1) q v)) a b = ab_oth Y a b q v := by
  show ab_er (upd (Y 1) q v) (b + 1 - a) a 0 = _
  rw [ab_er_up]
  unfold ab_oth
  by_cases c : a ≤ q ∧ q ≤ b
  · rw [if_pos (by omega), if_pos c]; rfl
  · rw [if_neg (by omega), if_neg c]
    rw [show (0 : Int32).toInt64 = 0 from rfl, Int64.sub_zero, Int64.add_zero]; rfl
theorem ab_ops_1 {f : Nat → Int32} {i : Nat} : ∀ (m q : Nat) (c : Int64), ab_ops (ab_set Y 1 f) n i m q c = ab_ops Y n i m q c := by
  intro m
  induction m with
  | zero => intro q c; rfl
  | succ m ih => intro q c; unfold ab_ops; rw [ih]; rfl
theorem ab_wt_1 {f : Nat → Int32} {e : Int32} : ∀ (m k : Nat) (d : Int32) (c : Int64), ab_wt (ab_set Y 1 f) n e m k d c = ab_wt Y n e m k d c := by
  intro m
  induction m with
  | zero => intro k d c; rfl
  | succ m ih => intro k d c; unfold ab_wt; rw [ih, ih]; rfl
theorem ab_T_1 {f : Nat → Int32} {e re : Int64} : ab_T (ab_set Y 1 f) n N a b lo e re = ab_T Y n N a b lo e re := by
  have hW : ab_W (ab_set Y 1 f) n a b = ab_W Y n a b := by
    funext i
    show ab_aw (ab_set Y 1 f) n i a b = ab_aw Y n i a b
    unfold ab_aw
    rw [ab_ops_1]; rfl
  have hE : ab_E (ab_set Y 1 f) a b = ab_E Y a b := rfl
  have hF : ab_ff (ab_set Y 1 f) = ab_ff Y := rfl
  have hV : ab_V (ab_set Y 1 f) n a b = ab_V Y n a b := ab_wt_1 _ _ _ _
  unfold ab_T ab_L
  rw [hW, hE, hF, hV]
end PU7
