/-! THE YEAR (class 4): what its methods answer -/
/-- the cells of a Year at y: row j of Y is its field j, a number at place 0 or an array -/
def pm_Yr (w : pm_H) (y : Nat) (Y : Nat → Nat → Int32) : Prop :=
  w y = some (.inr (4, [.int (Y 0 0), .ref (y + 2), .ref (y + 3), .int (Y 3 0), .ref (y + 5), .ref (y + 6), .ref (y + 7), .int (Y 7 0), .ref (y + 9), .ref (y + 10), .ref (y + 11), .ref (y + 12)])) ∧
  w (y + 2) = some (.inl (0, 4, .inl (Y 1))) ∧ w (y + 3) = some (.inl (0, 4, .inl (Y 2))) ∧ w (y + 5) = some (.inl (0, 20, .inl (Y 4))) ∧ w (y + 6) = some (.inl (0, 20, .inl (Y 5))) ∧ w (y + 7) = some (.inl (0, 20, .inl (Y 6))) ∧
  w (y + 9) = some (.inl (0, 8, .inl (Y 8))) ∧ w (y + 10) = some (.inl (0, 8, .inl (Y 9))) ∧ w (y + 11) = some (.inl (0, 8, .inl (Y 10))) ∧ w (y + 12) = some (.inl (0, 8, .inl (Y 11)))
/-- how many of the places from k on hold 2 -/
def ab_sc (s : Nat → Int32) : Nat → Nat → Int32 → Int32
  | 0, _, c => c
  | m + 1, k, c => ab_sc s m (k + 1) (if s k = 2 then c + 1 else c)
theorem q_sc_loop {w : pm_H} {y n : Nat} {Y : Nat → Nat → Int32} (hY : pm_Yr w y Y) (hn : Y 3 0 = nI n) (h20 : n ≤ 20) : ∀ (m k : Nat) (c : Int32), k + m = n → pm_ev 31 4 [some (.ref y), some (.int c), some (.int (nI k))] [] w = some (some (.int (ab_sc (Y 4) m k c)), w) := by
  obtain ⟨h0, h1, h2, h4, h5, h6, h8, h9, h10, h11⟩ := hY
  intro m
  induction m with
  | zero =>
    intro k c hk
    simp only [z31_4, z31_5, z31_6, z31_9, pm_kv_some, pm_kw_some, pm_k_some, pm_k_void, pm_vc_some, pm_kl_some, pg4_0, pg4_1, pg4_2, pg4_3, pg4_4, pg4_5, pg4_6, pg4_7, pg4_8, pg4_9, pg4_10, pg4_11, h0, hn]
    rw [if_neg (nI_nlt (by omega) (by omega))]
    simp only [z31_31, z31_32, ab_sc]
  | succ m ih =>
    intro k c hk
    have hin : vp_in (nI k) 20 := vp_in_nI (by omega) (by omega)
    simp only [z31_4, z31_5, z31_6, z31_9, pm_kv_some, pm_kw_some, pm_k_some, pm_k_void, pm_vc_some, pm_kl_some, pg4_0, pg4_1, pg4_2, pg4_3, pg4_4, pg4_5, pg4_6, pg4_7, pg4_8, pg4_9, pg4_10, pg4_11, h0, hn]
    rw [if_pos (nI_lt (by omega) (by omega))]
    simp only [z31_12, z31_13, z31_16, z31_17, z31_18, z31_19, z31_22, z31_25, z31_28, pm_kv_some, pm_kw_some, pm_k_some, pm_k_void, pm_vc_some, pm_kl_some, pg4_0, pg4_1, pg4_2, pg4_3, pg4_4, pg4_5, pg4_6, pg4_7, pg4_8, pg4_9, pg4_10, pg4_11, h0, h4, pm_ia_in hin, nI_clamp (show k < 2 ^ 31 by omega), nI_1]
    by_cases hs : Y 4 k = 2
    · rw [if_pos hs, ih (k + 1) (c + 1) (by omega)]
      simp only [ab_sc, if_pos hs]
    · rw [if_neg hs, ih (k + 1) c (by omega)]
      simp only [ab_sc, if_neg hs]
theorem q_splitCount {w : pm_H} {y n : Nat} {Y : Nat → Nat → Int32} (hY : pm_Yr w y Y) (hn : Y 3 0 = nI n) (h20 : n ≤ 20) : pm_call 31 [.ref y] w = some (some (.int (ab_sc (Y 4) n 0 0)), w) := by
  simp only [pe31, z31_0, z31_1, z31_2, z31_3]
  exact q_sc_loop hY hn h20 n 0 0 (by omega)
theorem pm_lc_gt {x y : Int64} : (0 < lg_cmp x y) = (y < x) := by
  unfold lg_cmp
  by_cases h : x > y
  · rw [if_pos h]; simp [show y < x from h]
  · rw [if_neg h]
    have h' : ¬ y < x := h
    by_cases h2 : x = y
    · rw [if_pos h2]; simp [h']
    · rw [if_neg h2]; simp [h']
theorem pm_lc_eq {x y : Int64} : (lg_cmp x y = 0) = (x = y) := by
  unfold lg_cmp
  by_cases h : x > y
  · rw [if_pos h]
    have : ¬ x = y := fun e => by subst e; exact absurd h (Int64.lt_irrefl)
    simp [this]
  · rw [if_neg h]
    by_cases h2 : x = y
    · rw [if_pos h2]; simp [h2]
    · rw [if_neg h2]; simp [h2]
theorem pm_lc_lt {x y : Int64} : (lg_cmp x y < 0) = (x < y) := by
  unfold lg_cmp
  by_cases h : x > y
  · rw [if_pos h]
    have : ¬ x < y := fun e => Int64.lt_asymm e h
    simp [this]
  · rw [if_neg h]
    by_cases h2 : x = y
    · rw [if_pos h2]; subst h2; simp [Int64.lt_irrefl]
    · rw [if_neg h2]
      have : x < y := by
        rcases Int64.lt_or_eq_of_le (Int64.not_lt.mp h) with q | q
        · exact q
        · exact absurd q h2
      simp [this]
def ab_mx (a b : Int32) : Int32 := if a < b then b else a
def ab_mn (a b : Int32) : Int32 := if b < a then b else a
theorem q_max {w : pm_H} {a b : Int32} : pm_call 166 [.int a, .int b] w = some (some (.int (ab_mx a b)), w) := by
  simp only [pe166, z166_0, z166_1, z166_2, z166_5, z166_6, z166_9, z166_10, ab_mx]
  split <;> rfl
theorem q_min {w : pm_H} {a b : Int32} : pm_call 165 [.int a, .int b] w = some (some (.int (ab_mn a b)), w) := by
  simp only [pe165, z165_0, z165_1, z165_2, z165_5, z165_6, z165_9, z165_10, ab_mn]
  split <;> rfl
theorem q_dayBehind {w : pm_H} {q : Int32} : pm_call 47 [.int q] w = some (some (.int ((q + 1) * 90)), w) := by
  simp only [pe47, z47_0, z47_1, z47_2, z47_3, z47_5, z47_6]
/-- shares by the events from place k on, up to a day -/
def ab_sh (s d u : Nat → Int32) (D : Int32) : Nat → Nat → Int32 → Int32
  | 0, _, c => c
  | m + 1, k, c => if D < d k then c else ab_sh s d u D m (k + 1) (if s k = 0 then c + u k else if s k = 1 then c - u k else c * u k)
theorem q_sh_loop {w : pm_H} {y n : Nat} {Y : Nat → Nat → Int32} {D : Int32} (hY : pm_Yr w y Y) (hn : Y 3 0 = nI n) (h20 : n ≤ 20) : ∀ (m k : Nat) (c : Int32) (t : Option Value), k + m = n → pm_ev 36 7 [some (.ref y), some (.int D), some (.int c), some (.int (nI k)), t] [] w = some (some (.int (ab_sh (Y 4) (Y 5) (Y 6) D m k c)), w) := by
  obtain ⟨h0, h1, h2, h4, h5, h6, h8, h9, h10, h11⟩ := hY
  intro m
  induction m with
  | zero =>
    intro k c t hk
    simp only [z36_7, z36_8, z36_9, z36_12, pm_kv_some, pm_kw_some, pm_k_some, pm_k_void, pm_vc_some, pm_kl_some, pg4_0, pg4_1, pg4_2, pg4_3, pg4_4, pg4_5, pg4_6, pg4_7, pg4_8, pg4_9, pg4_10, pg4_11, h0, hn]
    rw [if_neg (nI_nlt (by omega) (by omega))]
    simp only [z36_91, z36_92, ab_sh]
  | succ m ih =>
    intro k c t hk
    have hin : vp_in (nI k) 20 := vp_in_nI (by omega) (by omega)
    simp only [z36_7, z36_8, z36_9, z36_12, pm_kv_some, pm_kw_some, pm_k_some, pm_k_void, pm_vc_some, pm_kl_some, pg4_0, pg4_1, pg4_2, pg4_3, pg4_4, pg4_5, pg4_6, pg4_7, pg4_8, pg4_9, pg4_10, pg4_11, h0, hn]
    rw [if_pos (nI_lt (by omega) (by omega))]
    simp only [z36_15, z36_16, z36_19, z36_20, z36_21, z36_22, pm_kv_some, pm_kw_some, pm_k_some, pm_k_void, pm_vc_some, pm_kl_some, pg4_0, pg4_1, pg4_2, pg4_3, pg4_4, pg4_5, pg4_6, pg4_7, pg4_8, pg4_9, pg4_10, pg4_11, h0, h5, pm_ia_in hin, nI_clamp (show k < 2 ^ 31 by omega), nI_1]
    by_cases hD : D < Y 5 k
    · rw [if_pos hD]
      simp only [z36_91, z36_92, ab_sh, if_pos hD]
    · rw [if_neg hD]
      simp only [z36_25, z36_26, z36_29, z36_30, z36_31, z36_33, z36_34, z36_37, z36_38, z36_39, z36_64, z36_65, z36_67, z36_68, z36_69, z36_72, z36_73, z36_75, z36_76, z36_77, z36_80, z36_81, z36_83, z36_84, z36_85, z36_88, pm_kv_some, pm_kw_some, pm_k_some, pm_k_void, pm_vc_some, pm_kl_some, pg4_0, pg4_1, pg4_2, pg4_3, pg4_4, pg4_5, pg4_6, pg4_7, pg4_8, pg4_9, pg4_10, pg4_11, h0, h4, h6, pm_ia_in hin, nI_clamp (show k < 2 ^ 31 by omega), nI_1, ab_sh, if_neg hD]
      by_cases hs : Y 4 k = 0
      · rw [if_pos hs, if_pos hs]; exact ih _ _ _ (by omega)
      · rw [if_neg hs, if_neg hs]
        by_cases hs1 : Y 4 k = 1
        · rw [if_pos hs1, if_pos hs1]; exact ih _ _ _ (by omega)
        · rw [if_neg hs1, if_neg hs1]; exact ih _ _ _ (by omega)
theorem q_sharesOn {w : pm_H} {y n : Nat} {Y : Nat → Nat → Int32} {D : Int32} (hY : pm_Yr w y Y) (hn : Y 3 0 = nI n) (h20 : n ≤ 20) : pm_call 36 [.ref y, .int D] w = some (some (.int (ab_sh (Y 4) (Y 5) (Y 6) D n 0 (Y 0 0))), w) := by
  simp only [pe36, z36_0, z36_1, z36_4, z36_5, z36_6, pm_kv_some, pm_kw_some, pm_k_some, pm_k_void, pm_vc_some, pm_kl_some, pg4_0, pg4_1, pg4_2, pg4_3, pg4_4, pg4_5, pg4_6, pg4_7, pg4_8, pg4_9, pg4_10, pg4_11, hY.1]
  exact q_sh_loop hY hn h20 n 0 _ _ (by omega)
/-- the splits from place k on behind a day, up to another one, multiplied -/
def ab_sp (s d u : Nat → Int32) (A B : Int32) : Nat → Nat → Int32 → Int32
  | 0, _, c => c
  | m + 1, k, c => ab_sp s d u A B m (k + 1) (if s k = 2 then (if A < d k then (if B < d k then c else c * u k) else c) else c)
theorem q_sp_loop {w : pm_H} {y n : Nat} {Y : Nat → Nat → Int32} {A B : Int32} (hY : pm_Yr w y Y) (hn : Y 3 0 = nI n) (h20 : n ≤ 20) : ∀ (m k : Nat) (c : Int32), k + m = n → pm_ev 41 5 [some (.ref y), some (.int A), some (.int B), some (.int c), some (.int (nI k))] [] w = some (some (.int (ab_sp (Y 4) (Y 5) (Y 6) A B m k c)), w) := by
  obtain ⟨h0, h1, h2, h4, h5, h6, h8, h9, h10, h11⟩ := hY
  intro m
  induction m with
  | zero =>
    intro k c hk
    simp only [z41_5, z41_7, z41_8, z41_11, pm_kv_some, pm_kw_some, pm_k_some, pm_k_void, pm_vc_some, pm_kl_some, pg4_0, pg4_1, pg4_2, pg4_3, pg4_4, pg4_5, pg4_6, pg4_7, pg4_8, pg4_9, pg4_10, pg4_11, h0, hn]
    rw [if_neg (nI_nlt (by omega) (by omega))]
    simp only [z41_63, z41_64, ab_sp]
  | succ m ih =>
    intro k c hk
    have hin : vp_in (nI k) 20 := vp_in_nI (by omega) (by omega)
    simp only [z41_5, z41_7, z41_8, z41_11, pm_kv_some, pm_kw_some, pm_k_some, pm_k_void, pm_vc_some, pm_kl_some, pg4_0, pg4_1, pg4_2, pg4_3, pg4_4, pg4_5, pg4_6, pg4_7, pg4_8, pg4_9, pg4_10, pg4_11, h0, hn]
    rw [if_pos (nI_lt (by omega) (by omega))]
    simp only [z41_14, z41_15, z41_18, z41_20, z41_21, z41_22, z41_25, z41_26, z41_29, z41_31, z41_32, z41_33, z41_36, z41_37, z41_40, z41_42, z41_43, z41_44, z41_47, z41_48, z41_49, z41_52, z41_54, z41_55, z41_56, z41_57, z41_60, pm_kv_some, pm_kw_some, pm_k_some, pm_k_void, pm_vc_some, pm_kl_some, pg4_0, pg4_1, pg4_2, pg4_3, pg4_4, pg4_5, pg4_6, pg4_7, pg4_8, pg4_9, pg4_10, pg4_11, h0, h4, h5, h6, pm_ia_in hin, nI_clamp (show k < 2 ^ 31 by omega), nI_1, ab_sp]
    by_cases hs : Y 4 k = 2
    · rw [if_pos hs, if_pos hs]
      by_cases hA : A < Y 5 k
      · rw [if_pos hA, if_pos hA]
        by_cases hB : B < Y 5 k
        · rw [if_pos hB, if_pos hB]; exact ih _ _ (by omega)
        · rw [if_neg hB, if_neg hB]; exact ih _ _ (by omega)
      · rw [if_neg hA, if_neg hA]; exact ih _ _ (by omega)
    · rw [if_neg hs, if_neg hs]; exact ih _ _ (by omega)
theorem q_splitsBehind {w : pm_H} {y n : Nat} {Y : Nat → Nat → Int32} {A B : Int32} (hY : pm_Yr w y Y) (hn : Y 3 0 = nI n) (h20 : n ≤ 20) : pm_call 41 [.ref y, .int A, .int B] w = some (some (.int (ab_sp (Y 4) (Y 5) (Y 6) A B n 0 1)), w) := by
  simp only [pe41, z41_0, z41_1, z41_2, z41_3]
  exact q_sp_loop hY hn h20 n 0 _ (by omega)
theorem q_latestDay {w : pm_H} {y n : Nat} {Y : Nat → Nat → Int32} (hY : pm_Yr w y Y) (hn : Y 3 0 = nI n) (h20 : n ≤ 20) : pm_call 33 [.ref y] w = some (some (.int (if n = 0 then -1 else Y 5 (n - 1))), w) := by
  obtain ⟨h0, h1, h2, h4, h5, h6, h8, h9, h10, h11⟩ := hY
  simp only [pe33, z33_0, z33_1, z33_4, pm_kv_some, pm_kw_some, pm_k_some, pm_k_void, pm_vc_some, pm_kl_some, pg4_0, pg4_1, pg4_2, pg4_3, pg4_4, pg4_5, pg4_6, pg4_7, pg4_8, pg4_9, pg4_10, pg4_11, h0, hn]
  by_cases h : n = 0
  · subst h
    rw [if_neg (by rw [nI_0]; exact Int32.lt_irrefl), if_pos rfl]
    simp only [z33_21, z33_22]
  · obtain ⟨j, rfl⟩ : ∃ j, n = j + 1 := ⟨n - 1, by omega⟩
    rw [if_pos (by rw [← nI_0]; exact nI_lt (by omega) (by omega)), if_neg h]
    simp only [z33_7, z33_8, z33_11, z33_12, z33_15, z33_16, z33_17, z33_18, z33_22, pm_kv_some, pm_kw_some, pm_k_some, pm_k_void, pm_vc_some, pm_kl_some, pg4_0, pg4_1, pg4_2, pg4_3, pg4_4, pg4_5, pg4_6, pg4_7, pg4_8, pg4_9, pg4_10, pg4_11, h0, h5, hn, nI_pred, pm_ia_in (vp_in_nI (show j < 20 by omega) (by omega)), nI_clamp (show j < 2 ^ 31 by omega), Nat.add_sub_cancel]
theorem q_hasInstrument {w : pm_H} {y : Nat} {Y : Nat → Nat → Int32} {i : Int32} (hY : pm_Yr w y Y) : pm_call 42 [.ref y, .int i] w = some (some (.int (if i < 0 then 0 else if i < Y 7 0 then 1 else 0)), w) := by
  simp only [pe42, z42_0, z42_1, z42_4, z42_5, z42_6, z42_9, z42_12, z42_13, z42_16, z42_17, pm_kv_some, pm_kw_some, pm_k_some, pm_k_void, pm_vc_some, pm_kl_some, pg4_0, pg4_1, pg4_2, pg4_3, pg4_4, pg4_5, pg4_6, pg4_7, pg4_8, pg4_9, pg4_10, pg4_11, hY.1, pm_zr0, pm_zr1]
  split
  · rfl
  · split <;> rfl
theorem q_earliestDay {w : pm_H} {y n : Nat} {Y : Nat → Nat → Int32} (hY : pm_Yr w y Y) (hn : Y 3 0 = nI n) (h20 : n ≤ 20) : pm_call 32 [.ref y] w = some (some (.int (ab_mx (if n = 0 then -1 else Y 5 (n - 1)) 0)), w) := by
  simp only [pe32, z32_0, z32_1, z32_4, z32_5, z32_8, pm_kv_some, pm_kw_some, pm_k_some, pm_k_void, pm_vc_some, pm_kl_some, hY.1, q_latestDay hY hn h20, q_max]
theorem q_leastOfEvent {w : pm_H} {y : Nat} {s : Int32} : pm_call 34 [.ref y, .int s] w = some (some (.int (if s = 2 then 2 else 1)), w) := by
  simp only [pe34, z34_0, z34_1, z34_2, z34_5, z34_6, z34_9, z34_10, pm_kv_some, pm_kw_some, pm_k_some, pm_k_void, pm_vc_some, pm_kl_some]
  split <;> rfl
theorem q_mostOfEvent {w : pm_H} {y n : Nat} {Y : Nat → Nat → Int32} {s : Int32} (hY : pm_Yr w y Y) (hn : Y 3 0 = nI n) (h20 : n ≤ 20) : pm_call 35 [.ref y, .int s] w = some (some (.int (if s = 2 then 9 else if s = 1 then ab_mn 99999 (ab_sh (Y 4) (Y 5) (Y 6) 359 n 0 (Y 0 0) - 1) else 99999)), w) := by
  simp only [pe35, z35_0, z35_1, z35_2, z35_5, z35_7, z35_8, z35_9, z35_10, z35_13, z35_15, z35_16, z35_19, z35_22, z35_23, z35_24, z35_27, z35_30, z35_32, pm_kv_some, pm_kw_some, pm_k_some, pm_k_void, pm_vc_some, pm_kl_some, hY.1, q_sharesOn hY hn h20, q_min]
  split
  · rfl
  · split <;> rfl
theorem q_hasRoomForEvent {w : pm_H} {y n : Nat} {Y : Nat → Nat → Int32} {s : Int32} (hY : pm_Yr w y Y) (hn : Y 3 0 = nI n) (h20 : n ≤ 20) : pm_call 30 [.ref y, .int s] w = some (some (.int (if n < 20 ∧ (s = 2 → ab_sc (Y 4) n 0 0 < 3) then 1 else 0)), w) := by
  simp only [pe30, z30_0, z30_1, z30_4, z30_6, z30_9, z30_10, z30_11, z30_14, z30_15, z30_18, z30_19, z30_22, z30_23, z30_26, z30_27, pm_kv_some, pm_kw_some, pm_k_some, pm_k_void, pm_vc_some, pm_kl_some, pg4_0, pg4_1, pg4_2, pg4_3, pg4_4, pg4_5, pg4_6, pg4_7, pg4_8, pg4_9, pg4_10, pg4_11, hY.1, q_splitCount hY hn h20, pm_zr0, pm_zr1, hn]
  by_cases h : n < 20
  · rw [if_pos (show nI n < 20 from nI_lt (b := 20) h (by omega))]
    by_cases hs : s = 2
    · rw [if_pos hs]
      by_cases hc : ab_sc (Y 4) n 0 0 < 3
      · rw [if_pos hc, if_pos ⟨h, fun _ => hc⟩]
      · rw [if_neg hc, if_neg (fun z => hc (z.2 hs))]
    · rw [if_neg hs, if_pos ⟨h, fun z => absurd z hs⟩]
  · rw [if_neg (show ¬ nI n < 20 from nI_nlt (b := 20) (by omega) (by omega)), if_neg (fun z => h z.1)]
theorem q_hasRoomForInstrument {w : pm_H} {y : Nat} {Y : Nat → Nat → Int32} (hY : pm_Yr w y Y) : pm_call 38 [.ref y] w = some (some (.int (if Y 7 0 < 8 then 1 else 0)), w) := by
  simp only [pe38, z38_0, z38_1, z38_4, z38_6, z38_9, z38_10, z38_13, z38_14, pm_kv_some, pm_kw_some, pm_k_some, pm_k_void, pm_vc_some, pm_kl_some, pg4_0, pg4_1, pg4_2, pg4_3, pg4_4, pg4_5, pg4_6, pg4_7, pg4_8, pg4_9, pg4_10, pg4_11, hY.1, pm_zr0, pm_zr1]
  split <;> rfl
theorem q_restatedOn {w : pm_H} {y n : Nat} {Y : Nat → Nat → Int32} {D : Int32} (hY : pm_Yr w y Y) (hn : Y 3 0 = nI n) (h20 : n ≤ 20) : pm_call 40 [.ref y, .int D] w = some (some (.int (ab_sh (Y 4) (Y 5) (Y 6) D n 0 (Y 0 0) * ab_sp (Y 4) (Y 5) (Y 6) D 359 n 0 1)), w) := by
  simp only [pe40, z40_0, z40_1, z40_2, z40_5, z40_6, z40_7, z40_10, z40_13, z40_14, pm_kv_some, pm_kw_some, pm_k_some, pm_k_void, pm_vc_some, pm_kl_some, hY.1, q_sharesOn hY hn h20, q_splitsBehind hY hn h20]
