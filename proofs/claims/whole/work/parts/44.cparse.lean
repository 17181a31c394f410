/-! WHAT IS READ: numbers, semicolons, words; the class's part -/
def tz_num (c : Nat → Nat) (t : Nat) (lo hi : Int32) (p : Nat) : (Nat × Nat) ⊕ (Int32 × Nat) :=
  if (tz_t c t p).1 = 2 then (if tz_v c (tz_t c t p).2.1 ((tz_t c t p).2.2 - (tz_t c t p).2.1) < lo ∨ hi < tz_v c (tz_t c t p).2.1 ((tz_t c t p).2.2 - (tz_t c t p).2.1) then .inl (2, (tz_t c t p).2.1) else .inr (tz_v c (tz_t c t p).2.1 ((tz_t c t p).2.2 - (tz_t c t p).2.1), (tz_t c t p).2.2)) else .inl (1, (tz_t c t p).2.1)
def tz_semi (c : Nat → Nat) (t p : Nat) : (Nat × Nat) ⊕ Nat := if (tz_t c t p).1 = 3 then .inr (tz_t c t p).2.2 else .inl (1, (tz_t c t p).2.1)
noncomputable def tz_word (c : Nat → Nat) (t j p : Nat) : (Nat × Nat) ⊕ Nat := @ite _ (tz_isw c t p j) (Classical.propDecidable _) (.inr (tz_t c t p).2.2) (.inl (1, (tz_t c t p).2.1))
theorem tz_num_le {c : Nat → Nat} {t p r : Nat} {lo hi v : Int32} (hp : p ≤ t) (h : tz_num c t lo hi p = .inr (v, r)) : r ≤ t ∧ ¬ v < lo ∧ ¬ hi < v := by
  have hat := tz_t_at (c := c) hp
  unfold tz_num at h
  split at h
  · rename_i e
    split at h
    · cases h
    · rename_i e2
      have hr := tz_r_le hat (Or.inr (Or.inl e))
      injection h with h
      injection h with h1 h2
      rw [h2] at hr
      rw [← h1]
      exact ⟨hr.1, fun z => e2 (Or.inl z), fun z => e2 (Or.inr z)⟩
  · cases h
theorem tz_semi_le {c : Nat → Nat} {t p r : Nat} (hp : p ≤ t) (h : tz_semi c t p = .inr r) : r ≤ t := by
  have hat := tz_t_at (c := c) hp
  unfold tz_semi at h
  split at h
  · rename_i e
    have hr := tz_r_le hat (Or.inr (Or.inr e))
    injection h with h
    rw [h] at hr; exact hr.1
  · cases h
theorem tz_isw_le {c : Nat → Nat} {t p j : Nat} (hp : p ≤ t) (h : tz_isw c t p j) : (tz_t c t p).2.2 ≤ t := (tz_r_le (tz_t_at (c := c) hp) (Or.inl h.1)).1
section PCP
variable {w : pm_H} {fk fp pl nx tk va : Int32} {c : Nat → Nat} {B : Nat → Int32} {t p j : Nat}
theorem c_number (h10 : w 10 = some (.inr (3, [.ref 11, .int (nI t)]))) (h11 : w 11 = some (.inl (2, 740, .inl B))) (hB : tz_B B c t) (ht : t ≤ 740) (hp : p ≤ t) {lo hi : Int32} :
    (∀ k s, tz_num c t lo hi p = .inl (k, s) → ∃ pl' nx' tk' va' : Int32, pm_call 19 [.ref 20, .int lo, .int hi] (pm_Rw w fk fp pl (nI p) tk va) = some (some (.int 0), pm_Rw w (nI k) (nI s) pl' nx' tk' va')) ∧
    (∀ v r, tz_num c t lo hi p = .inr (v, r) → ∃ pl' tk' : Int32, pm_call 19 [.ref 20, .int lo, .int hi] (pm_Rw w fk fp pl (nI p) tk va) = some (some (.int 1), pm_Rw w fk fp pl' (nI r) tk' v)) := by
  obtain ⟨pl', nx', tk', va', h1, h2⟩ := c_step (w := w) (fk := fk) (fp := fp) (pl := pl) (tk := tk) (va := va) h10 h11 hB ht hp
  have k5 := tz_k5 (c := c) hp
  unfold tz_num
  unfold tz_ccur at h2
  generalize (tz_t c t p).1 = k0 at *
  generalize (tz_t c t p).2.1 = s0 at *
  generalize (tz_t c t p).2.2 = r0 at *
  obtain ⟨a1, a2, a3, a4⟩ := h2
  by_cases e : k0 = 2
  · have e2 : tk' = 2 := by rw [a2, e]; rfl
    have e3 := a3 (Or.inr (Or.inl e))
    have e4 := a4 e
    rw [if_pos e, ← e4]
    have st : pm_call 19 [.ref 20, .int lo, .int hi] (pm_Rw w fk fp pl (nI p) tk va) = if va' < lo ∨ hi < va' then some (some (.int 0), pm_Rw w 2 pl' pl' nx' tk' va') else some (some (.int 1), pm_Rw w fk fp pl' nx' tk' va') := by
      simp only [pe19, z19_0, z19_1, z19_4, z19_5, z19_8, z19_9, pm_kv_some, pm_kw_some, pm_k_some, pm_k_void, pm_vc_some, pm_kl_some, pg2_0, pg2_1, pg2_2, pg2_3, pg2_4, pg2_5, pg2_6, rw20, h1]
      rw [if_pos e2]
      simp only [z19_18, z19_19, z19_22, z19_23, pm_kv_some, pm_kw_some, pm_k_some, pm_k_void, pm_vc_some, pm_kl_some, pg2_0, pg2_1, pg2_2, pg2_3, pg2_4, pg2_5, pg2_6, rw20]
      have f : pm_ev 19 34 [some (.ref 20), some (.int lo), some (.int hi)] [] (pm_Rw w fk fp pl' nx' tk' va') = some (some (.int 0), pm_Rw w 2 pl' pl' nx' tk' va') := by
        simp only [z19_34, z19_35, z19_36, z19_39, pm_kv_some, pm_kw_some, pm_k_some, pm_k_void, pm_vc_some, pm_kl_some, rw20, q_fail]
        rw [if_pos trivial]
        simp only [z19_46, z19_47, pm_zr0]
      by_cases c1 : va' < lo
      · rw [if_pos c1, if_pos (Or.inl c1)]; exact f
      · rw [if_neg c1]
        simp only [z19_26, z19_27, z19_30, z19_31, pm_kv_some, pm_kw_some, pm_k_some, pm_k_void, pm_vc_some, pm_kl_some, pg2_0, pg2_1, pg2_2, pg2_3, pg2_4, pg2_5, pg2_6, rw20]
        by_cases c2 : hi < va'
        · rw [if_pos c2, if_pos (Or.inr c2)]; exact f
        · rw [if_neg c2, if_neg (fun z => z.elim c1 c2)]
          simp only [z19_42, z19_43, z19_46, z19_47, pm_zr1]
    rw [st]
    refine ⟨fun k s h => ?_, fun v r h => ?_⟩
    · split at h
      · rename_i c1
        injection h with h
        injection h with h1 h2
        rw [if_pos c1, ← h1, ← h2, ← a1]
        exact ⟨pl', nx', tk', va', rfl⟩
      · cases h
    · split at h
      · cases h
      · rename_i c1
        injection h with h
        injection h with h1 h2
        rw [if_neg c1, ← h1, ← h2, ← e3]
        exact ⟨pl', tk', rfl⟩
  · rw [if_neg e]
    have e2 : ¬ tk' = 2 := by
      rw [a2]; intro z
      by_cases e5 : k0 = 5
      · rw [if_pos e5] at z; exact absurd z (by decide)
      · rw [if_neg e5] at z; exact e ((nI_eq (b := 2) (by omega) (by omega)).mp z)
    refine ⟨fun k s h => ?_, fun v r h => ?_⟩
    · injection h with h
      injection h with h3 h4
      refine ⟨pl', nx', tk', va', ?_⟩
      simp only [pe19, z19_0, z19_1, z19_4, z19_5, z19_8, z19_9, pm_kv_some, pm_kw_some, pm_k_some, pm_k_void, pm_vc_some, pm_kl_some, pg2_0, pg2_1, pg2_2, pg2_3, pg2_4, pg2_5, pg2_6, rw20, h1]
      rw [if_neg e2]
      simp only [z19_12, z19_13, z19_14, z19_17, pm_kv_some, pm_kw_some, pm_k_some, pm_k_void, pm_vc_some, pm_kl_some, rw20, q_fail, pm_zr0]
      rw [← h3, ← h4, ← a1]; rfl
    · cases h
theorem c_semi (h10 : w 10 = some (.inr (3, [.ref 11, .int (nI t)]))) (h11 : w 11 = some (.inl (2, 740, .inl B))) (hB : tz_B B c t) (ht : t ≤ 740) (hp : p ≤ t) :
    (∀ k s, tz_semi c t p = .inl (k, s) → ∃ pl' nx' tk' va' : Int32, pm_call 20 [.ref 20] (pm_Rw w fk fp pl (nI p) tk va) = some (some (.int 0), pm_Rw w (nI k) (nI s) pl' nx' tk' va')) ∧
    (∀ r, tz_semi c t p = .inr r → ∃ pl' tk' va' : Int32, pm_call 20 [.ref 20] (pm_Rw w fk fp pl (nI p) tk va) = some (some (.int 1), pm_Rw w fk fp pl' (nI r) tk' va')) := by
  obtain ⟨pl', nx', tk', va', h1, h2⟩ := c_step (w := w) (fk := fk) (fp := fp) (pl := pl) (tk := tk) (va := va) h10 h11 hB ht hp
  have k5 := tz_k5 (c := c) hp
  unfold tz_semi
  unfold tz_ccur at h2
  generalize (tz_t c t p).1 = k0 at *
  generalize (tz_t c t p).2.1 = s0 at *
  generalize (tz_t c t p).2.2 = r0 at *
  obtain ⟨a1, a2, a3, -⟩ := h2
  by_cases e : k0 = 3
  · have e2 : tk' = 3 := by rw [a2, e]; rfl
    have e3 := a3 (Or.inr (Or.inr e))
    rw [if_pos e]
    refine ⟨fun k s h => (by cases h), fun r h => ?_⟩
    injection h with h
    refine ⟨pl', tk', va', ?_⟩
    simp only [pe20, z20_0, z20_1, z20_4, z20_5, z20_8, z20_9, pm_kv_some, pm_kw_some, pm_k_some, pm_k_void, pm_vc_some, pm_kl_some, pg2_0, pg2_1, pg2_2, pg2_3, pg2_4, pg2_5, pg2_6, rw20, h1]
    rw [if_pos e2]
    simp only [z20_20, z20_21, z20_24, z20_25, pm_zr1]
    rw [← h, ← e3]
  · rw [if_neg e]
    have e2 : ¬ tk' = 3 := by
      rw [a2]; intro z
      by_cases e5 : k0 = 5
      · rw [if_pos e5] at z; exact absurd z (by decide)
      · rw [if_neg e5] at z; exact e ((nI_eq (b := 3) (by omega) (by omega)).mp z)
    refine ⟨fun k s h => ?_, fun r h => (by cases h)⟩
    injection h with h
    injection h with h3 h4
    refine ⟨pl', nx', tk', va', ?_⟩
    simp only [pe20, z20_0, z20_1, z20_4, z20_5, z20_8, z20_9, pm_kv_some, pm_kw_some, pm_k_some, pm_k_void, pm_vc_some, pm_kl_some, pg2_0, pg2_1, pg2_2, pg2_3, pg2_4, pg2_5, pg2_6, rw20, h1]
    rw [if_neg e2]
    simp only [z20_12, z20_13, z20_14, z20_17, pm_kv_some, pm_kw_some, pm_k_some, pm_k_void, pm_vc_some, pm_kl_some, rw20, q_fail]
    rw [if_pos trivial]
    simp only [z20_24, z20_25, pm_zr0]
    rw [← h3, ← h4, ← a1]; rfl
theorem tz_word_t {c : Nat → Nat} {t p j r : Nat} (h : tz_word c t j p = .inr r) : tz_isw c t p j ∧ r = (tz_t c t p).2.2 := by
  unfold tz_word at h
  by_cases e : tz_isw c t p j
  · rw [if_pos e] at h; injection h with h; exact ⟨e, h.symm⟩
  · rw [if_neg e] at h; cases h
theorem tz_word_f {c : Nat → Nat} {t p j k s : Nat} (h : tz_word c t j p = .inl (k, s)) : ¬ tz_isw c t p j ∧ k = 1 ∧ s = (tz_t c t p).2.1 := by
  unfold tz_word at h
  by_cases e : tz_isw c t p j
  · rw [if_pos e] at h; cases h
  · rw [if_neg e] at h; injection h with h; injection h with h1 h2; exact ⟨e, h1.symm, h2.symm⟩
theorem tz_word_le {c : Nat → Nat} {t p j r : Nat} (hp : p ≤ t) (h : tz_word c t j p = .inr r) : r ≤ t := by
  obtain ⟨h1, h2⟩ := tz_word_t h
  rw [h2]; exact tz_isw_le hp h1
theorem c_word (h10 : w 10 = some (.inr (3, [.ref 11, .int (nI t)]))) (h11 : w 11 = some (.inl (2, 740, .inl B))) (hB : tz_B B c t) (ht : t ≤ 740) (hp : p ≤ t) (hj : j < 11) :
    (∀ k s, tz_word c t j p = .inl (k, s) → ∃ pl' nx' tk' va' : Int32, pm_call 22 [.ref 20, .ref (1000 + j)] (pm_Rw w fk fp pl (nI p) tk va) = some (some (.int 0), pm_Rw w (nI k) (nI s) pl' nx' tk' va')) ∧
    (∀ r, tz_word c t j p = .inr r → ∃ pl' tk' va' : Int32, pm_call 22 [.ref 20, .ref (1000 + j)] (pm_Rw w fk fp pl (nI p) tk va) = some (some (.int 1), pm_Rw w fk fp pl' (nI r) tk' va')) := by
  obtain ⟨pl', nx', tk', va', h1, h2⟩ := c_step (w := w) (fk := fk) (fp := fp) (pl := pl) (tk := tk) (va := va) h10 h11 hB ht hp
  obtain ⟨g1, g2⟩ := c_isWord (w := w) (fk := fk) (fp := fp) h10 h11 hB ht hp hj h2
  refine ⟨fun k s h => ?_, fun r h => ?_⟩
  · obtain ⟨e1, e2, e3⟩ := tz_word_f h
    refine ⟨pl', nx', tk', va', ?_⟩
    simp only [pe22, z22_0, z22_1, z22_4, z22_5, z22_6, z22_9, pm_kv_some, pm_kw_some, pm_k_some, pm_k_void, pm_vc_some, pm_kl_some, rw20, h1, g2 e1]
    rw [if_pos trivial]
    simp only [z22_12, z22_13, z22_14, z22_17, pm_kv_some, pm_kw_some, pm_k_some, pm_k_void, pm_vc_some, pm_kl_some, rw20, q_fail]
    rw [if_pos trivial]
    simp only [z22_24, z22_25, pm_zr0]
    rw [e2, e3, ← h2.1]; rfl
  · obtain ⟨e1, e2⟩ := tz_word_t h
    refine ⟨pl', tk', va', ?_⟩
    simp only [pe22, z22_0, z22_1, z22_4, z22_5, z22_6, z22_9, pm_kv_some, pm_kw_some, pm_k_some, pm_k_void, pm_vc_some, pm_kl_some, rw20, h1, g1 e1]
    rw [if_neg (by decide)]
    simp only [z22_20, z22_21, z22_24, z22_25, pm_zr1]
    rw [e2, ← h2.2.2.1 (Or.inl e1.1)]
end PCP
