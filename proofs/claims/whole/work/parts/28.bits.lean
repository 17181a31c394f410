/-! ===== Int32 by its bits: bt x i ===== -/
def bt (x : Int32) (i : Nat) : Bool := x.toBitVec.getLsbD i
theorem b_ext {x y : Int32} (h : ∀ i, i < 32 → bt x i = bt y i) : x = y := Int32.toBitVec_inj.mp (BitVec.eq_of_getLsbD_eq (fun i hi => h i hi))
theorem b_or (x y : Int32) (i : Nat) : bt (x ||| y) i = (bt x i || bt y i) := by unfold bt; rw [Int32.toBitVec_or, BitVec.getLsbD_or]
theorem b_and (x y : Int32) (i : Nat) : bt (x &&& y) i = (bt x i && bt y i) := by unfold bt; rw [Int32.toBitVec_and, BitVec.getLsbD_and]
theorem b_xor (x y : Int32) (i : Nat) : bt (x ^^^ y) i = (bt x i ^^ bt y i) := by unfold bt; rw [Int32.toBitVec_xor, BitVec.getLsbD_xor]
theorem b_big {x : Int32} {i : Nat} (h : 32 ≤ i) : bt x i = false := BitVec.getLsbD_of_ge _ _ h
theorem b_255 (i : Nat) : bt 255 i = decide (i < 8) := by
  rcases Nat.lt_or_ge i 32 with h | h
  · exact (by decide +kernel : ∀ i, i < 32 → bt 255 i = decide (i < 8)) i h
  · rw [b_big h, decide_eq_false (by omega)]
theorem b_65535 (i : Nat) : bt 65535 i = decide (i < 16) := by
  rcases Nat.lt_or_ge i 32 with h | h
  · exact (by decide +kernel : ∀ i, i < 32 → bt 65535 i = decide (i < 16)) i h
  · rw [b_big h, decide_eq_false (by omega)]
theorem b_m1 : ∀ i, i < 32 → bt (-1) i = true := by decide +kernel
theorem b_0 (i : Nat) : bt 0 i = false := BitVec.getLsbD_zero
theorem s_l : ∀ n, n < 32 → ((nI n &&& 31).toBitVec.smod 32).toNat = n := by decide +kernel
theorem s_u : ∀ n, n < 32 → (((nI n).toUInt32 &&& Int32.toUInt32 31).toBitVec % 32).toNat = n := by decide +kernel
theorem b_shl (n : Nat) (hn : n < 32) (x : Int32) {i : Nat} (hi : i < 32) : bt (x <<< (nI n &&& 31)) i = (decide (n ≤ i) && bt x (i - n)) := by
  unfold bt
  rw [Int32.toBitVec_shiftLeft]
  show (x.toBitVec <<< ((nI n &&& 31).toBitVec.smod 32).toNat).getLsbD i = _
  rw [s_l n hn, BitVec.getLsbD_shiftLeft]
  rcases Nat.lt_or_ge i n with h | h
  · simp [h, Nat.not_le.mpr h]
  · simp [hi, h, Nat.not_lt.mpr h]
theorem b_ushr (n : Nat) (hn : n < 32) (x : Int32) (i : Nat) : bt ((x.toUInt32 >>> ((nI n).toUInt32 &&& Int32.toUInt32 31)).toInt32) i = bt x (n + i) := by
  show (x.toUInt32 >>> ((nI n).toUInt32 &&& Int32.toUInt32 31)).toBitVec.getLsbD i = x.toUInt32.toBitVec.getLsbD (n + i)
  rw [UInt32.toBitVec_shiftRight]
  show (x.toUInt32.toBitVec >>> (((nI n).toUInt32 &&& Int32.toUInt32 31).toBitVec % 32).toNat).getLsbD i = _
  rw [s_u n hn, BitVec.getLsbD_ushiftRight]
theorem b_sshr (n : Nat) (hn : n < 32) (x : Int32) {i : Nat} (hi : i < 32) : bt (x >>> (nI n &&& 31)) i = if n + i < 32 then bt x (n + i) else bt x 31 := by
  unfold bt
  rw [Int32.toBitVec_shiftRight]
  show (x.toBitVec.sshiftRight ((nI n &&& 31).toBitVec.smod 32).toNat).getLsbD i = _
  rw [s_l n hn, BitVec.getLsbD_sshiftRight, BitVec.msb_eq_getLsbD_last]
  simp [hi]
theorem b_shl8 (x : Int32) {i : Nat} (hi : i < 32) : bt (x <<< ((8 : Int32) &&& 31)) i = (decide (8 ≤ i) && bt x (i - 8)) := b_shl 8 (by omega) x hi
theorem b_shl16 (x : Int32) {i : Nat} (hi : i < 32) : bt (x <<< ((16 : Int32) &&& 31)) i = (decide (16 ≤ i) && bt x (i - 16)) := b_shl 16 (by omega) x hi
theorem b_shl24 (x : Int32) {i : Nat} (hi : i < 32) : bt (x <<< ((24 : Int32) &&& 31)) i = (decide (24 ≤ i) && bt x (i - 24)) := b_shl 24 (by omega) x hi
theorem b_sshr8 (x : Int32) {i : Nat} (hi : i < 32) : bt (x >>> ((8 : Int32) &&& 31)) i = if 8 + i < 32 then bt x (8 + i) else bt x 31 := b_sshr 8 (by omega) x hi
/-! SETS OF INSTRUMENTS, by their bits -/
theorem b_1 (k : Nat) : bt 1 k = decide (k = 0) := by
  by_cases h : k < 32
  · exact (by decide +kernel : ∀ i, i < 32 → bt 1 i = decide (i = 0)) k h
  · rw [b_big (by omega)]; simp; omega
theorem ab_bit_bt {s : Int32} {j : Nat} (hj : j < 32) : ab_bit s j ↔ bt s j = true := by
  unfold ab_bit
  have h0 : bt (s >>> (nI j &&& 31)) 0 = bt s j := by rw [b_sshr j hj s (by omega), if_pos (by omega), Nat.add_zero]
  constructor
  · intro h
    have h1 := congrArg (fun x => bt x 0) h
    simp only [b_and, h0, b_1] at h1
    simpa using h1
  · intro h
    refine b_ext (fun i hi => ?_)
    rw [b_and, b_1]
    by_cases e : i = 0
    · subst e; rw [h0, h]; rfl
    · simp [e]
theorem ab_bit_or {s : Int32} {i j : Nat} (hi : i < 32) (hj : j < 32) : ab_bit (s ||| (1 <<< (nI i &&& 31))) j ↔ ab_bit s j ∨ i = j := by
  rw [ab_bit_bt hj, ab_bit_bt hj, b_or, b_shl i hi 1 hj, b_1]
  simp only [Bool.or_eq_true, Bool.and_eq_true, decide_eq_true_eq]
  constructor
  · rintro (h | h)
    · exact Or.inl h
    · exact Or.inr (by omega)
  · rintro (h | h)
    · exact Or.inl h
    · exact Or.inr (by omega)
theorem ab_bit_and {s t : Int32} {j : Nat} (hj : j < 32) : ab_bit (s &&& t) j ↔ ab_bit s j ∧ ab_bit t j := by
  rw [ab_bit_bt hj, ab_bit_bt hj, ab_bit_bt hj, b_and, Bool.and_eq_true]
theorem ab_bit_0 {j : Nat} (hj : j < 32) : ¬ ab_bit 0 j := by
  rw [ab_bit_bt hj, b_0]; decide
theorem ab_sum_add {s : Int32} {f : Nat → Int64} {d : Int64} : ∀ (m k : Nat) (c : Int64), ab_sum s f m k (c + d) = ab_sum s f m k c + d := by
  intro m
  induction m with
  | zero => intro k c; rfl
  | succ m ih =>
    intro k c
    unfold ab_sum
    by_cases h : ab_bit s k
    · rw [if_pos h, if_pos h, ← ih]; congr 1; rw [Int64.add_assoc, Int64.add_comm d, ← Int64.add_assoc]
    · rw [if_neg h, if_neg h]; exact ih _ _
theorem ab_sum_congr {s t : Int32} {f g : Nat → Int64} : ∀ (m k : Nat) (c : Int64), (∀ j, k ≤ j → j < k + m → (ab_bit s j ↔ ab_bit t j) ∧ (ab_bit s j → f j = g j)) → ab_sum s f m k c = ab_sum t g m k c := by
  intro m
  induction m with
  | zero => intro k c _; rfl
  | succ m ih =>
    intro k c h
    unfold ab_sum
    obtain ⟨h1, h2⟩ := h k (Nat.le_refl _) (by omega)
    by_cases hb : ab_bit s k
    · rw [if_pos hb, if_pos (h1.mp hb), h2 hb]; exact ih _ _ (fun j q1 q2 => h j (by omega) (by omega))
    · rw [if_neg hb, if_neg (fun z => hb (h1.mpr z))]; exact ih _ _ (fun j q1 q2 => h j (by omega) (by omega))
theorem ab_sum_ins {s : Int32} {f : Nat → Int64} {i : Nat} (hi : i < 8) (hs : ¬ ab_bit s i) : ∀ (m k : Nat) (c : Int64), k + m = 8 → ab_sum (s ||| (1 <<< (nI i &&& 31))) f m k c = ab_sum s f m k c + (if k ≤ i then f i else 0) := by
  intro m
  induction m with
  | zero => intro k c hk; rw [if_neg (by omega)]; unfold ab_sum; rw [Int64.add_zero]
  | succ m ih =>
    intro k c hk
    unfold ab_sum
    by_cases e : i = k
    · subst e
      rw [if_pos ((ab_bit_or (by omega) (by omega)).mpr (Or.inr rfl)), if_neg hs, if_pos (Nat.le_refl _), ih _ _ (by omega), if_neg (by omega), ab_sum_add, Int64.add_zero]
    · by_cases hb : ab_bit s k
      · rw [if_pos ((ab_bit_or (by omega) (by omega)).mpr (Or.inl hb)), if_pos hb, ih _ _ (by omega)]
        congr 1
        by_cases hk2 : k ≤ i
        · rw [if_pos hk2, if_pos (by omega)]
        · rw [if_neg hk2, if_neg (by omega)]
      · rw [if_neg (fun z => ((ab_bit_or (by omega) (by omega)).mp z).elim hb e), if_neg hb, ih _ _ (by omega)]
        congr 1
        by_cases hk2 : k ≤ i
        · rw [if_pos hk2, if_pos (by omega)]
        · rw [if_neg hk2, if_neg (by omega)]
/-- what is taken in is what the set adds up -/
theorem ab_tl_sum {Wf Ef : Nat → Int64} {e0 v0 : Int64} : ∀ (l : List Nat) (e v : Int64) (s : Int32), l.Nodup → (∀ i, i ∈ l → i < 8 ∧ ¬ ab_bit s i) → ab_sum s Ef 8 0 e0 = e → ab_sum s Wf 8 0 v0 = v →
    ab_sum (ab_tl Wf Ef l e v s).1 Ef 8 0 e0 = (ab_tl Wf Ef l e v s).2.2.1 ∧ ab_sum (ab_tl Wf Ef l e v s).1 Wf 8 0 v0 = (ab_tl Wf Ef l e v s).2.2.2 ∧ ∀ j, j < 8 → ab_bit (ab_tl Wf Ef l e v s).1 j → ab_bit s j ∨ j ∈ l := by
  intro l
  induction l with
  | nil => intro e v s _ _ h1 h2; exact ⟨h1, h2, fun j _ h => Or.inl h⟩
  | cons i l ih =>
    intro e v s hnd hl h1 h2
    obtain ⟨hi, hs⟩ := hl i List.mem_cons_self
    unfold ab_tl
    by_cases hc : (e + Ef i) * v < e * (v + Wf i)
    · rw [if_pos hc]
      obtain ⟨q1, q2, q3⟩ := ih (e + Ef i) (v + Wf i) (s ||| (1 <<< (nI i &&& 31))) (List.nodup_cons.mp hnd).2 (fun j hj => ⟨(hl j (List.mem_cons_of_mem _ hj)).1, fun z => ((ab_bit_or (by omega) (by have := (hl j (List.mem_cons_of_mem _ hj)).1; omega)).mp z).elim (hl j (List.mem_cons_of_mem _ hj)).2 (fun e => (List.nodup_cons.mp hnd).1 (e ▸ hj))⟩)
        (by rw [ab_sum_ins hi hs 8 0 _ (by omega), h1, if_pos (by omega)]) (by rw [ab_sum_ins hi hs 8 0 _ (by omega), h2, if_pos (by omega)])
      refine ⟨q1, q2, fun j hj hb => ?_⟩
      rcases q3 j hj hb with h | h
      · rcases (ab_bit_or (by omega) (by omega)).mp h with h | h
        · exact Or.inl h
        · exact Or.inr (h ▸ List.mem_cons_self)
      · exact Or.inr (List.mem_cons_of_mem _ h)
    · rw [if_neg hc]
      exact ⟨h1, h2, fun j _ h => Or.inl h⟩
theorem ab_ins_nodup {lt : Nat → Prop} {dec : ∀ j, Decidable (lt j)} {i : Nat} : ∀ r : List Nat, r.Nodup → i ∉ r → (ab_ins lt dec i r).Nodup := by
  intro r
  induction r with
  | nil => intro _ _; simp [ab_ins]
  | cons j r ih =>
    intro h1 h2
    unfold ab_ins
    by_cases h : lt j
    · rw [if_pos h, List.nodup_cons]
      refine ⟨fun z => ?_, ih (List.nodup_cons.mp h1).2 (fun z => h2 (List.mem_cons_of_mem _ z))⟩
      rcases (ab_ins_mem _).mp z with e | e
      · exact h2 (e ▸ List.mem_cons_self)
      · exact (List.nodup_cons.mp h1).1 e
    · rw [if_neg h, List.nodup_cons]
      exact ⟨h2, h1⟩
theorem ab_cl_nodup {Wf Ef : Nat → Int64} {lo : Int32} : ∀ m : Nat, (ab_cl Wf Ef lo m).Nodup := by
  intro m
  induction m with
  | zero => exact List.nodup_nil
  | succ m ih =>
    unfold ab_cl
    by_cases h : ¬ nI m = lo ∧ 0 < Wf m
    · rw [if_pos h]
      exact ab_ins_nodup _ ih (fun z => by have := (ab_cl_lt _ _ z).1; omega)
    · rw [if_neg h]; exact ih
theorem ab_rl_nodup {Wf Ef Ff : Nat → Int64} {lo : Int32} {N : Nat} {re : Int64} : (ab_rl Wf Ef Ff lo N re).Nodup := List.Pairwise.filter _ ((List.reverse_perm _).nodup_iff.mpr (ab_cl_nodup N))
theorem ab_rl_mem {Wf Ef Ff : Nat → Int64} {lo : Int32} {N k : Nat} {re : Int64} (h : k ∈ ab_rl Wf Ef Ff lo N re) : k < N := by
  unfold ab_rl at h
  exact (ab_cl_lt _ _ (List.mem_reverse.mp (List.mem_filter.mp h).1)).1
