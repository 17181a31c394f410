/-! THE YEAR, part 2: instruments, sums, writing -/
theorem q_oldShares {w : pm_H} {y n i : Nat} {Y : Nat → Nat → Int32} (hY : pm_Yr w y Y) (hn : Y 3 0 = nI n) (h20 : n ≤ 20) (hi : i < 8) : pm_call 43 [.ref y, .int (nI i)] w = some (some (.int (Y 10 i * ab_sp (Y 4) (Y 5) (Y 6) (Y 9 i) 359 n 0 1)), w) := by
  obtain ⟨h0, h1, h2, h4, h5, h6, h8, h9, h10, h11⟩ := id hY
  have hin : vp_in (nI i) 8 := vp_in_nI hi (by omega)
  simp only [pe43, z43_0, z43_1, z43_4, z43_5, z43_6, z43_7, z43_8, z43_11, z43_12, z43_13, z43_16, z43_19, z43_20, pm_kv_some, pm_kw_some, pm_k_some, pm_k_void, pm_vc_some, pm_kl_some, pg4_0, pg4_1, pg4_2, pg4_3, pg4_4, pg4_5, pg4_6, pg4_7, pg4_8, pg4_9, pg4_10, pg4_11, h0, h9, h10, pm_ia_in hin, nI_clamp (show i < 2 ^ 31 by omega), q_splitsBehind hY hn h20]
theorem q_profitFloor {w : pm_H} {y i : Nat} {Y : Nat → Nat → Int32} (hY : pm_Yr w y Y) (hi : i < 8) : pm_call 50 [.ref y, .int (nI i)] w = some (some (.long (if Y 8 i = 2 then (Y 11 i).toInt64 else -1000000000)), w) := by
  obtain ⟨h0, h1, h2, h4, h5, h6, h8, h9, h10, h11⟩ := id hY
  have hin : vp_in (nI i) 8 := vp_in_nI hi (by omega)
  simp only [pe50, z50_0, z50_1, z50_4, z50_5, z50_6, z50_7, z50_10, z50_11, z50_14, z50_15, z50_16, z50_17, z50_20, z50_23, pm_kv_some, pm_kw_some, pm_k_some, pm_k_void, pm_vc_some, pm_kl_some, pg4_0, pg4_1, pg4_2, pg4_3, pg4_4, pg4_5, pg4_6, pg4_7, pg4_8, pg4_9, pg4_10, pg4_11, h0, h8, h11, pm_ia_in hin, nI_clamp (show i < 2 ^ 31 by omega)]
  split <;> rfl
/-- on how many days of a run an instrument counts, di its day -/
def ab_dc (di a b : Int32) : Int32 := ab_mx ((b + 1) * 90 - ab_mx (a * 90) di) 0
theorem q_daysCounted {w : pm_H} {y i : Nat} {Y : Nat → Nat → Int32} {a b : Int32} (hY : pm_Yr w y Y) (hi : i < 8) : pm_call 49 [.ref y, .int (nI i), .int a, .int b] w = some (some (.int (ab_dc (Y 9 i) a b)), w) := by
  obtain ⟨h0, h1, h2, h4, h5, h6, h8, h9, h10, h11⟩ := id hY
  have hin : vp_in (nI i) 8 := vp_in_nI hi (by omega)
  simp only [pe49, z49_0, z49_1, z49_3, z49_4, z49_5, z49_8, z49_9, z49_10, z49_13, z49_15, z49_16, z49_19, z49_21, z49_22, z49_23, z49_26, pm_kv_some, pm_kw_some, pm_k_some, pm_k_void, pm_vc_some, pm_kl_some, pg4_0, pg4_1, pg4_2, pg4_3, pg4_4, pg4_5, pg4_6, pg4_7, pg4_8, pg4_9, pg4_10, pg4_11, h0, h9, pm_ia_in hin, nI_clamp (show i < 2 ^ 31 by omega), q_max, q_dayBehind, ab_dc]
/-- the price of a quarter as of the shares that were told -/
def ab_pr (Y : Nat → Nat → Int32) (n i q : Nat) : Int32 := Y 2 q * ab_sp (Y 4) (Y 5) (Y 6) (Y 9 i) ((nI q + 1) * 90 - 1) n 0 1
def ab_old (Y : Nat → Nat → Int32) (n i : Nat) : Int32 := Y 10 i * ab_sp (Y 4) (Y 5) (Y 6) (Y 9 i) 359 n 0 1
theorem q_scaledPrice {w : pm_H} {y n i q : Nat} {Y : Nat → Nat → Int32} (hY : pm_Yr w y Y) (hn : Y 3 0 = nI n) (h20 : n ≤ 20) (hi : i < 8) (hq : q < 4) : pm_call 54 [.ref y, .int (nI i), .int (nI q)] w = some (some (.int (ab_pr Y n i q)), w) := by
  obtain ⟨h0, h1, h2, h4, h5, h6, h8, h9, h10, h11⟩ := id hY
  have hin : vp_in (nI i) 8 := vp_in_nI hi (by omega)
  have hiq : vp_in (nI q) 4 := vp_in_nI hq (by omega)
  simp only [pe54, z54_0, z54_1, z54_4, z54_5, z54_6, z54_7, z54_8, z54_11, z54_12, z54_13, z54_14, z54_17, z54_18, z54_19, z54_22, z54_23, pm_kv_some, pm_kw_some, pm_k_some, pm_k_void, pm_vc_some, pm_kl_some, pg4_0, pg4_1, pg4_2, pg4_3, pg4_4, pg4_5, pg4_6, pg4_7, pg4_8, pg4_9, pg4_10, pg4_11, h0, h2, h9, pm_ia_in hin, pm_ia_in hiq, nI_clamp (show i < 2 ^ 31 by omega), nI_clamp (show q < 2 ^ 31 by omega), q_splitsBehind hY hn h20, q_dayBehind, ab_pr]
/-- what an option adds in a quarter -/
def ab_op (Y : Nat → Nat → Int32) (n i q : Nat) : Int64 :=
  if 0 < (ab_pr Y n i q).toInt64 - (Y 11 i).toInt64 then (if 0 < (ab_pr Y n i q).toInt64 then (ab_old Y n i).toInt64 * (ab_dc (Y 9 i) (nI q) (nI q)).toInt64 * ((ab_pr Y n i q).toInt64 - (Y 11 i).toInt64) / (ab_pr Y n i q).toInt64 else 0) else 0
theorem pm_pos_ne {x : Int64} (h : 0 < x) : ¬ x = 0 := fun e => by subst e; exact Int64.lt_irrefl h
theorem q_addedByOption {w : pm_H} {y n i q : Nat} {Y : Nat → Nat → Int32} (hY : pm_Yr w y Y) (hn : Y 3 0 = nI n) (h20 : n ≤ 20) (hi : i < 8) (hq : q < 4) : pm_call 53 [.ref y, .int (nI i), .int (nI q)] w = some (some (.long (ab_op Y n i q)), w) := by
  obtain ⟨h0, h1, h2, h4, h5, h6, h8, h9, h10, h11⟩ := id hY
  have hin : vp_in (nI i) 8 := vp_in_nI hi (by omega)
  simp only [pe53, z53_0, z53_1, z53_2, z53_3, z53_6, z53_7, z53_8, z53_9, z53_10, z53_13, z53_14, z53_15, z53_16, z53_17, z53_19, z53_21, z53_22, z53_23, pm_kv_some, pm_kw_some, pm_k_some, pm_k_void, pm_vc_some, pm_kl_some, pg4_0, pg4_1, pg4_2, pg4_3, pg4_4, pg4_5, pg4_6, pg4_7, pg4_8, pg4_9, pg4_10, pg4_11, h0, h11, pm_ia_in hin, nI_clamp (show i < 2 ^ 31 by omega), q_scaledPrice hY hn h20 hi hq, pm_lc_gt, ab_op]
  by_cases hA : 0 < (ab_pr Y n i q).toInt64 - (Y 11 i).toInt64
  · rw [if_pos hA, if_pos hA]
    simp only [z53_26, z53_27, z53_28, z53_29, pm_lc_gt]
    by_cases hB : 0 < (ab_pr Y n i q).toInt64
    · rw [if_pos hB, if_pos hB]
      simp only [z53_34, z53_35, z53_36, z53_39, z53_40, z53_41, z53_42, z53_43, z53_44, z53_47, z53_48, z53_49, z53_51, z53_52, z53_53, z53_54, pm_kv_some, pm_kw_some, pm_k_some, pm_k_void, pm_vc_some, pm_kl_some, h0, q_oldShares hY hn h20 hi, q_daysCounted hY hi, pm_dv_ne (pm_pos_ne hB), ab_old]
    · rw [if_neg hB, if_neg hB]
      simp only [z53_32, z53_33]
  · rw [if_neg hA, if_neg hA]
    simp only [z53_32, z53_33]
def ab_ops (Y : Nat → Nat → Int32) (n i : Nat) : Nat → Nat → Int64 → Int64
  | 0, _, c => c
  | m + 1, q, c => ab_ops Y n i m (q + 1) (c + ab_op Y n i q)
theorem q_ops_loop {w : pm_H} {y n i a b : Nat} {Y : Nat → Nat → Int32} (hY : pm_Yr w y Y) (hn : Y 3 0 = nI n) (h20 : n ≤ 20) (hi : i < 8) (hb : b < 4) : ∀ (m q : Nat) (c : Int64), q + m = b + 1 → pm_ev 52 19 [some (.ref y), some (.int (nI i)), some (.int (nI a)), some (.int (nI b)), some (.int 0), some (.long c), none, some (.int (nI q))] [] w = some (some (.long (ab_ops Y n i m q c)), w) := by
  obtain ⟨h0, h1, h2, h4, h5, h6, h8, h9, h10, h11⟩ := id hY
  intro m
  induction m with
  | zero =>
    intro q c hq
    simp only [z52_19, z52_21, z52_22]
    rw [if_pos (nI_lt (by omega) (by omega))]
    simp only [z52_43, z52_45, ab_ops]
  | succ m ih =>
    intro q c hq
    simp only [z52_19, z52_21, z52_22]
    rw [if_neg (nI_nlt (by omega) (by omega))]
    simp only [z52_25, z52_27, z52_28, z52_29, z52_31, z52_34, z52_35, z52_37, z52_40, pm_kv_some, pm_kw_some, pm_k_some, pm_k_void, pm_vc_some, pm_kl_some, h0, q_addedByOption hY hn h20 hi (show q < 4 by omega), nI_1, ab_ops]
    exact ih _ _ (by omega)
/-- what an instrument adds to the weight of a run, its profit floor reached -/
def ab_aw (Y : Nat → Nat → Int32) (n i a b : Nat) : Int64 :=
  if Y 8 i = 0 then ab_ops Y n i (b + 1 - a) a 0 else if Y 8 i = 3 ∧ ab_pr Y n i b < Y 11 i then 0 else (ab_old Y n i).toInt64 * (ab_dc (Y 9 i) (nI a) (nI b)).toInt64
theorem q_addedToWeight {w : pm_H} {y n i a b : Nat} {Y : Nat → Nat → Int32} (hY : pm_Yr w y Y) (hn : Y 3 0 = nI n) (h20 : n ≤ 20) (hi : i < 8) (hab : a ≤ b) (hb : b < 4) : pm_call 52 [.ref y, .int (nI i), .int (nI a), .int (nI b)] w = some (some (.long (ab_aw Y n i a b)), w) := by
  obtain ⟨h0, h1, h2, h4, h5, h6, h8, h9, h10, h11⟩ := id hY
  have hin : vp_in (nI i) 8 := vp_in_nI hi (by omega)
  simp only [pe52, z52_0, z52_1, z52_4, z52_5, z52_6, z52_8, z52_10, pm_kv_some, pm_kw_some, pm_k_some, pm_k_void, pm_vc_some, pm_kl_some, pg4_0, pg4_1, pg4_2, pg4_3, pg4_4, pg4_5, pg4_6, pg4_7, pg4_8, pg4_9, pg4_10, pg4_11, h0, h8, pm_ia_in hin, nI_clamp (show i < 2 ^ 31 by omega), ab_aw]
  by_cases hs : Y 8 i = 0
  · rw [if_pos hs, if_pos hs]
    simp only [z52_13, z52_14, z52_16, z52_17, hs]
    exact q_ops_loop hY hn h20 hi hb _ _ _ (by omega)
  · rw [if_neg hs, if_neg hs]
    simp only [z52_46, z52_48, z52_49]
    by_cases h3 : Y 8 i = 3
    · rw [if_pos h3]
      simp only [z52_52, z52_53, z52_54, z52_55, z52_58, z52_59, z52_62, z52_63, z52_64, pm_kv_some, pm_kw_some, pm_k_some, pm_k_void, pm_vc_some, pm_kl_some, pg4_0, pg4_1, pg4_2, pg4_3, pg4_4, pg4_5, pg4_6, pg4_7, pg4_8, pg4_9, pg4_10, pg4_11, h0, h11, pm_ia_in hin, nI_clamp (show i < 2 ^ 31 by omega), q_scaledPrice hY hn h20 hi hb]
      by_cases hp : ab_pr Y n i b < Y 11 i
      · rw [if_pos hp, if_pos ⟨h3, hp⟩]
        simp only [z52_67, z52_68]
      · rw [if_neg hp, if_neg (fun z => hp z.2)]
        simp only [z52_69, z52_70, z52_71, z52_74, z52_75, z52_76, z52_77, z52_78, z52_79, z52_82, z52_83, z52_84, pm_kv_some, pm_kw_some, pm_k_some, pm_k_void, pm_vc_some, pm_kl_some, h0, q_oldShares hY hn h20 hi, q_daysCounted hY hi, ab_old]
    · rw [if_neg h3, if_neg (fun z => h3 z.1)]
      simp only [z52_69, z52_70, z52_71, z52_74, z52_75, z52_76, z52_77, z52_78, z52_79, z52_82, z52_83, z52_84, pm_kv_some, pm_kw_some, pm_k_some, pm_k_void, pm_vc_some, pm_kl_some, h0, q_oldShares hY hn h20 hi, q_daysCounted hY hi, ab_old]
def ab_ae (Y : Nat → Nat → Int32) (i a b : Nat) : Int64 := if Y 8 i = 1 then (Y 11 i).toInt64 * (ab_dc (Y 9 i) (nI a) (nI b)).toInt64 / 360 else 0
theorem q_addedToEarnings {w : pm_H} {y i a b : Nat} {Y : Nat → Nat → Int32} (hY : pm_Yr w y Y) (hi : i < 8) : pm_call 48 [.ref y, .int (nI i), .int (nI a), .int (nI b)] w = some (some (.long (ab_ae Y i a b)), w) := by
  obtain ⟨h0, h1, h2, h4, h5, h6, h8, h9, h10, h11⟩ := id hY
  have hin : vp_in (nI i) 8 := vp_in_nI hi (by omega)
  simp only [pe48, z48_0, z48_1, z48_4, z48_5, z48_6, z48_7, pm_kv_some, pm_kw_some, pm_k_some, pm_k_void, pm_vc_some, pm_kl_some, pg4_0, pg4_1, pg4_2, pg4_3, pg4_4, pg4_5, pg4_6, pg4_7, pg4_8, pg4_9, pg4_10, pg4_11, h0, h8, pm_ia_in hin, nI_clamp (show i < 2 ^ 31 by omega), ab_ae]
  by_cases hs : Y 8 i = 1
  · rw [if_pos hs, if_pos hs]
    simp only [z48_12, z48_13, z48_16, z48_17, z48_18, z48_19, z48_20, z48_21, z48_22, z48_23, z48_26, z48_27, z48_28, z48_31, z48_32, pm_kv_some, pm_kw_some, pm_k_some, pm_k_void, pm_vc_some, pm_kl_some, pg4_0, pg4_1, pg4_2, pg4_3, pg4_4, pg4_5, pg4_6, pg4_7, pg4_8, pg4_9, pg4_10, pg4_11, h0, h11, pm_ia_in hin, nI_clamp (show i < 2 ^ 31 by omega), q_daysCounted hY hi, pm_dv_ne (show ¬ (360 : Int64) = 0 by decide)]
  · rw [if_neg hs, if_neg hs]
    simp only [z48_10, z48_11]
/-- the profits of m quarters from q on -/
def ab_er (p : Nat → Int32) : Nat → Nat → Int64 → Int64
  | 0, _, c => c
  | m + 1, q, c => ab_er p m (q + 1) (c + (p q).toInt64)
theorem q_er_loop {w : pm_H} {y b : Nat} {Y : Nat → Nat → Int32} {a : Int32} (hY : pm_Yr w y Y) (hb : b < 4) : ∀ (m q : Nat) (c : Int64), q + m = b + 1 → pm_ev 51 5 [some (.ref y), some (.int a), some (.int (nI b)), some (.long c), none, some (.int (nI q))] [] w = some (some (.long (ab_er (Y 1) m q c)), w) := by
  obtain ⟨h0, h1, h2, h4, h5, h6, h8, h9, h10, h11⟩ := id hY
  intro m
  induction m with
  | zero =>
    intro q c hq
    simp only [z51_5, z51_7, z51_8]
    rw [if_pos (nI_lt (by omega) (by omega))]
    simp only [z51_28, z51_29, ab_er]
  | succ m ih =>
    intro q c hq
    simp only [z51_5, z51_7, z51_8]
    rw [if_neg (nI_nlt (by omega) (by omega))]
    simp only [z51_11, z51_12, z51_13, z51_16, z51_18, z51_19, z51_20, z51_21, z51_22, z51_25, pm_kv_some, pm_kw_some, pm_k_some, pm_k_void, pm_vc_some, pm_kl_some, pg4_0, pg4_1, pg4_2, pg4_3, pg4_4, pg4_5, pg4_6, pg4_7, pg4_8, pg4_9, pg4_10, pg4_11, h0, h1, pm_ia_in (vp_in_nI (show q < 4 by omega) (by omega)), nI_clamp (show q < 2 ^ 31 by omega), nI_1, ab_er]
    exact ih _ _ (by omega)
theorem q_earningsOf {w : pm_H} {y a b : Nat} {Y : Nat → Nat → Int32} (hY : pm_Yr w y Y) (hab : a ≤ b) (hb : b < 4) : pm_call 51 [.ref y, .int (nI a), .int (nI b)] w = some (some (.long (ab_er (Y 1) (b + 1 - a) a 0)), w) := by
  simp only [pe51, z51_0, z51_1, z51_2, z51_3]
  exact q_er_loop hY hb _ _ _ (by omega)
/-- restated shares of a day -/
def ab_rs (Y : Nat → Nat → Int32) (n : Nat) (D : Int32) : Int32 := ab_sh (Y 4) (Y 5) (Y 6) D n 0 (Y 0 0) * ab_sp (Y 4) (Y 5) (Y 6) D 359 n 0 1
/-- the weight by stretches between events: e the end, m events left from k on, day and sum so far -/
def ab_wt (Y : Nat → Nat → Int32) (n : Nat) (e : Int32) : Nat → Nat → Int32 → Int64 → Int64
  | 0, _, d, c => c + (ab_rs Y n d).toInt64 * (e - d).toInt64
  | m + 1, k, d, c => if d < ab_mn (Y 5 k) e then ab_wt Y n e m (k + 1) (ab_mn (Y 5 k) e) (c + (ab_rs Y n d).toInt64 * (ab_mn (Y 5 k) e - d).toInt64) else ab_wt Y n e m (k + 1) d c
theorem q_wt_loop {w : pm_H} {y n : Nat} {Y : Nat → Nat → Int32} {a b e : Int32} (hY : pm_Yr w y Y) (hn : Y 3 0 = nI n) (h20 : n ≤ 20) : ∀ (m k : Nat) (d : Int32) (c : Int64) (t : Option Value), k + m = n → pm_ev 46 17 [some (.ref y), some (.int a), some (.int b), some (.int e), some (.int d), some (.long c), none, some (.int (nI k)), t] [] w = some (some (.long (ab_wt Y n e m k d c)), w) := by
  obtain ⟨h0, h1, h2, h4, h5, h6, h8, h9, h10, h11⟩ := id hY
  intro m
  induction m with
  | zero =>
    intro k d c t hk
    simp only [z46_17, z46_19, z46_20, z46_23, pm_kv_some, pm_kw_some, pm_k_some, pm_k_void, pm_vc_some, pm_kl_some, pg4_0, pg4_1, pg4_2, pg4_3, pg4_4, pg4_5, pg4_6, pg4_7, pg4_8, pg4_9, pg4_10, pg4_11, h0, hn]
    rw [if_neg (nI_nlt (by omega) (by omega))]
    simp only [z46_75, z46_77, z46_78, z46_80, z46_83, z46_84, z46_85, z46_87, z46_88, z46_89, z46_90, z46_91, pm_kv_some, pm_kw_some, pm_k_some, pm_k_void, pm_vc_some, pm_kl_some, h0, q_restatedOn hY hn h20, ab_wt, ab_rs]
  | succ m ih =>
    intro k d c t hk
    have hin : vp_in (nI k) 20 := vp_in_nI (by omega) (by omega)
    simp only [z46_17, z46_19, z46_20, z46_23, pm_kv_some, pm_kw_some, pm_k_some, pm_k_void, pm_vc_some, pm_kl_some, pg4_0, pg4_1, pg4_2, pg4_3, pg4_4, pg4_5, pg4_6, pg4_7, pg4_8, pg4_9, pg4_10, pg4_11, h0, hn]
    rw [if_pos (nI_lt (by omega) (by omega))]
    simp only [z46_26, z46_27, z46_30, z46_32, z46_33, z46_34, z46_37, z46_39, z46_41, z46_43, pm_kv_some, pm_kw_some, pm_k_some, pm_k_void, pm_vc_some, pm_kl_some, pg4_0, pg4_1, pg4_2, pg4_3, pg4_4, pg4_5, pg4_6, pg4_7, pg4_8, pg4_9, pg4_10, pg4_11, h0, h5, pm_ia_in hin, nI_clamp (show k < 2 ^ 31 by omega), q_min, ab_wt]
    by_cases hd : d < ab_mn (Y 5 k) e
    · rw [if_pos hd, if_pos hd]
      simp only [z46_46, z46_48, z46_49, z46_51, z46_54, z46_55, z46_57, z46_59, z46_60, z46_61, z46_62, z46_63, z46_65, z46_67, z46_69, z46_72, pm_kv_some, pm_kw_some, pm_k_some, pm_k_void, pm_vc_some, pm_kl_some, h0, q_restatedOn hY hn h20, nI_1, ab_rs]
      exact ih _ _ _ _ (by omega)
    · rw [if_neg hd, if_neg hd]
      simp only [z46_69, z46_72, nI_1]
      exact ih _ _ _ _ (by omega)
theorem q_weightOf {w : pm_H} {y n : Nat} {Y : Nat → Nat → Int32} {a b : Int32} (hY : pm_Yr w y Y) (hn : Y 3 0 = nI n) (h20 : n ≤ 20) : pm_call 46 [.ref y, .int a, .int b] w = some (some (.long (ab_wt Y n ((b + 1) * 90) n 0 (a * 90) 0)), w) := by
  simp only [pe46, z46_0, z46_1, z46_4, z46_5, z46_6, z46_8, z46_9, z46_11, z46_12, z46_14, z46_15, pm_kv_some, pm_kw_some, pm_k_some, pm_k_void, pm_vc_some, pm_kl_some, q_dayBehind]
  exact q_wt_loop hY hn h20 n 0 _ _ _ (by omega)
