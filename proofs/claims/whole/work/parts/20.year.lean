/-! THE YEAR (class 4): what its methods answer -/
/-- the cells of a Year at y: row j of Y is its field j, a number at place 0 or an array -/
def pm_Yr (w : pm_H) (y : Nat) (Y : Nat → Nat → Int32) : Prop :=
  w y = some (.inr (4, [.int (Y 0 0), .ref (y + 2), .ref (y + 3), .int (Y 3 0), .ref (y + 5), .ref (y + 6), .ref (y + 7), .int (Y 7 0), .ref (y + 9), .ref (y + 10), .ref (y + 11), .ref (y + 12)])) ∧
  w (y + 2) = some (.inl (0, 4, .inl (Y 1))) ∧ w (y + 3) = some (.inl (0, 4, .inl (Y 2))) ∧ w (y + 5) = some (.inl (0, 20, .inl (Y 4))) ∧ w (y + 6) = some (.inl (0, 20, .inl (Y 5))) ∧ w (y + 7) = some (.inl (0, 20, .inl (Y 6))) ∧
  w (y + 9) = some (.inl (0, 8, .inl (Y 8))) ∧ w (y + 10) = some (.inl (0, 8, .inl (Y 9))) ∧ w (y + 11) = some (.inl (0, 8, .inl (Y 10))) ∧ w (y + 12) = some (.inl (0, 8, .inl (Y 11)))
/-- how many of the places from k on hold 2 -/
def ab_sc (s : Nat → Int32) : Nat → Nat → Int32 → Int32
  | 0, _, c => c
  | m + 1, k, c => ab_sc s m (k + 1) (if s k = 2 then c + 1 else c)
theorem q_sc_loop {w : pm_H} {y n : Nat} {Y : Nat → Nat → Int32} (hY : pm_Yr w y Y) (hn : Y 3 0 = nI n) (h20 : n ≤ 20) : ∀ (m k : Nat) (c : Int32), k + m = n → pm_ev 31 4 [some (.ref y), some (.int c), some (.int (nI k))] [] w = some (some (.int (ab_sc (Y 4) m k c)), w) := by
  obtain ⟨h0, h1, h2, h4, h5, h6, h8, h9, h10, h11⟩ := hY
  intro m
  induction m with
  | zero =>
    intro k c hk
    simp only [z31_4, z31_5, z31_6, z31_9, pm_kv_some, pm_kw_some, pm_k_some, pm_k_void, pm_vc_some, pm_kl_some, pg4_0, pg4_1, pg4_2, pg4_3, pg4_4, pg4_5, pg4_6, pg4_7, pg4_8, pg4_9, pg4_10, pg4_11, h0, hn]
    rw [if_neg (nI_nlt (by omega) (by omega))]
    simp only [z31_31, z31_32, ab_sc]
  | succ m ih =>
    intro k c hk
    have hin : vp_in (nI k) 20 := vp_in_nI (by omega) (by omega)
    simp only [z31_4, z31_5, z31_6, z31_9, pm_kv_some, pm_kw_some, pm_k_some, pm_k_void, pm_vc_some, pm_kl_some, pg4_0, pg4_1, pg4_2, pg4_3, pg4_4, pg4_5, pg4_6, pg4_7, pg4_8, pg4_9, pg4_10, pg4_11, h0, hn]
    rw [if_pos (nI_lt (by omega) (by omega))]
    simp only [z31_12, z31_13, z31_16, z31_17, z31_18, z31_19, z31_22, z31_25, z31_28, pm_kv_some, pm_kw_some, pm_k_some, pm_k_void, pm_vc_some, pm_kl_some, pg4_0, pg4_1, pg4_2, pg4_3, pg4_4, pg4_5, pg4_6, pg4_7, pg4_8, pg4_9, pg4_10, pg4_11, h0, h4, pm_ia_in hin, nI_clamp (show k < 2 ^ 31 by omega), nI_1]
    by_cases hs : Y 4 k = 2
    · rw [if_pos hs, ih (k + 1) (c + 1) (by omega)]
      simp only [ab_sc, if_pos hs]
    · rw [if_neg hs, ih (k + 1) c (by omega)]
      simp only [ab_sc, if_neg hs]
theorem q_splitCount {w : pm_H} {y n : Nat} {Y : Nat → Nat → Int32} (hY : pm_Yr w y Y) (hn : Y 3 0 = nI n) (h20 : n ≤ 20) : pm_call 31 [.ref y] w = some (some (.int (ab_sc (Y 4) n 0 0)), w) := by
  simp only [pe31, z31_0, z31_1, z31_2, z31_3]
  exact q_sc_loop hY hn h20 n 0 0 (by omega)
