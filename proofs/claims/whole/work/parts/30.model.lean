/-! THE MODEL (class 6), what its reading methods answer; Yv R: a row of 103 numbers, seen as a Year -/
def Yv (R : Nat → Int32) (j k : Nat) : Int32 := match j with
  | 0 => R 0
  | 1 => R (1 + 2 * k)
  | 2 => R (2 + 2 * k)
  | 3 => R 9
  | 4 => R (10 + 3 * k)
  | 5 => R (11 + 3 * k)
  | 6 => R (12 + 3 * k)
  | 7 => R 70
  | 8 => R (71 + 4 * k)
  | 9 => R (72 + 4 * k)
  | 10 => R (73 + 4 * k)
  | _ => R (74 + 4 * k)
def pm_mc (S : Nat → Int32) (L : Nat → Int64) : va_E := .inr (6, [.int (S 0), .ref 202, .int (S 2), .int (S 3), .int (S 4), .int (S 5), .int (S 6), .int (S 7), .int (S 8), .int (S 9), .long (L 10), .ref 212, .ref 213, .ref 214, .int (S 14), .ref 216, .ref 217, .ref 218, .int (S 18), .int (S 19), .int (S 20), .long (L 21), .long (L 22)])
theorem q_isIn {w : pm_H} {v a b : Int32} : pm_call 96 [.int v, .int a, .int b] w = some (some (.int (if v < a then 0 else if b < v then 0 else 1)), w) := by
  simp only [pe96, z96_0, z96_1, z96_2, z96_5, z96_6, z96_7, z96_10, z96_11, z96_14, z96_15, pm_zr0, pm_zr1]
  split
  · rfl
  · split <;> rfl
theorem pm_tix (k j : Nat) : (10 : Int32) + 3 * nI k + nI j = nI (10 + 3 * k + j) := by
  show nI 10 + nI 3 * nI k + nI j = _
  rw [pk_mul, nI_add, nI_add]
theorem q_told {w : pm_H} {a k j : Nat} {R : Nat → Int32} (hN : w a = some (.inl (0, 103, .inl R))) (hk : 10 + 3 * k + j < 103) : pm_call 112 [.ref a, .int (nI k), .int (nI j)] w = some (some (.int (R (10 + 3 * k + j))), w) := by
  simp only [pe112, z112_0, z112_1, z112_3, z112_4, z112_5, z112_6, z112_7, z112_8, z112_9, z112_10, pm_kv_some, pm_kw_some, pm_k_some, pm_k_void, pm_vc_some, pm_kl_some, hN, pm_tix, pm_ia_in (vp_in_nI hk (by omega)), nI_clamp (show 10 + 3 * k + j < 2 ^ 31 by omega)]
theorem q_told0 {w : pm_H} {a k : Nat} {R : Nat → Int32} (hN : w a = some (.inl (0, 103, .inl R))) (hk : k ≤ 20) : pm_call 112 [.ref a, .int (nI k), .int 0] w = some (some (.int (Yv R 4 k)), w) := q_told (j := 0) hN (by omega)
theorem q_told1 {w : pm_H} {a k : Nat} {R : Nat → Int32} (hN : w a = some (.inl (0, 103, .inl R))) (hk : k ≤ 20) : pm_call 112 [.ref a, .int (nI k), .int 1] w = some (some (.int (Yv R 5 k)), w) := by
  have h := q_told (j := 1) hN (show 10 + 3 * k + 1 < 103 by omega)
  rw [show 10 + 3 * k + 1 = 11 + 3 * k by omega] at h
  exact h
theorem q_told2 {w : pm_H} {a k : Nat} {R : Nat → Int32} (hN : w a = some (.inl (0, 103, .inl R))) (hk : k ≤ 20) : pm_call 112 [.ref a, .int (nI k), .int 2] w = some (some (.int (Yv R 6 k)), w) := by
  have h := q_told (j := 2) hN (show 10 + 3 * k + 2 < 103 by omega)
  rw [show 10 + 3 * k + 2 = 12 + 3 * k by omega] at h
  exact h
theorem pm_in9 : vp_in 9 103 := vp_in_nI (n := 9) (by omega) (by omega)
theorem pm_in0 : vp_in 0 103 := vp_in_nI (n := 0) (by omega) (by omega)
theorem pm_in70 : vp_in 70 103 := vp_in_nI (n := 70) (by omega) (by omega)
theorem pm_cl0 : (0 : Int32).toNatClampNeg = 0 := rfl
theorem pm_cl70 : (70 : Int32).toNatClampNeg = 70 := rfl
theorem q_msc_loop {w : pm_H} {a n : Nat} {R : Nat → Int32} (hN : w a = some (.inl (0, 103, .inl R))) (hn : R 9 = nI n) (h20 : n ≤ 20) : ∀ (m k : Nat) (c : Int32), k + m = n → pm_ev 111 4 [some (.ref a), some (.int c), some (.int (nI k))] [] w = some (some (.int (ab_sc (Yv R 4) m k c)), w) := by
  intro m
  induction m with
  | zero =>
    intro k c hk
    simp only [z111_4, z111_5, z111_6, z111_8, z111_9, pm_kv_some, pm_kw_some, pm_k_some, pm_k_void, pm_vc_some, pm_kl_some, hN, pm_ia_in pm_in9, pm_cl9, hn]
    rw [if_neg (nI_nlt (by omega) (by omega))]
    simp only [z111_31, z111_32, ab_sc]
  | succ m ih =>
    intro k c hk
    simp only [z111_4, z111_5, z111_6, z111_8, z111_9, pm_kv_some, pm_kw_some, pm_k_some, pm_k_void, pm_vc_some, pm_kl_some, hN, pm_ia_in pm_in9, pm_cl9, hn]
    rw [if_pos (nI_lt (by omega) (by omega))]
    simp only [z111_12, z111_13, z111_14, z111_15, z111_18, z111_19, z111_22, z111_25, z111_28, pm_kv_some, pm_kw_some, pm_k_some, pm_k_void, pm_vc_some, pm_kl_some, q_told0 hN (show k ≤ 20 by omega), nI_1]
    by_cases hs : Yv R 4 k = 2
    · rw [if_pos hs, ih (k + 1) (c + 1) (by omega)]
      simp only [ab_sc, if_pos hs]
    · rw [if_neg hs, ih (k + 1) c (by omega)]
      simp only [ab_sc, if_neg hs]
theorem q_splitsOf {w : pm_H} {a n : Nat} {R : Nat → Int32} (hN : w a = some (.inl (0, 103, .inl R))) (hn : R 9 = nI n) (h20 : n ≤ 20) : pm_call 111 [.ref a] w = some (some (.int (ab_sc (Yv R 4) n 0 0)), w) := by
  simp only [pe111, z111_0, z111_1, z111_2, z111_3]
  exact q_msc_loop hN hn h20 n 0 0 (by omega)
theorem q_msh_loop {w : pm_H} {a n : Nat} {R : Nat → Int32} {D : Int32} (hN : w a = some (.inl (0, 103, .inl R))) (hn : R 9 = nI n) (h20 : n ≤ 20) : ∀ (m k : Nat) (c : Int32) (t t2 : Option Value), k + m = n → pm_ev 115 6 [some (.ref a), some (.int D), some (.int c), some (.int (nI k)), t, t2] [] w = some (some (.int (ab_sh (Yv R 4) (Yv R 5) (Yv R 6) D m k c)), w) := by
  intro m
  induction m with
  | zero =>
    intro k c t t2 hk
    simp only [z115_6, z115_7, z115_8, z115_10, z115_11, pm_kv_some, pm_kw_some, pm_k_some, pm_k_void, pm_vc_some, pm_kl_some, hN, pm_ia_in pm_in9, pm_cl9, hn]
    rw [if_neg (nI_nlt (by omega) (by omega))]
    simp only [z115_76, z115_77, ab_sh]
  | succ m ih =>
    intro k c t t2 hk
    simp only [z115_6, z115_7, z115_8, z115_10, z115_11, pm_kv_some, pm_kw_some, pm_k_some, pm_k_void, pm_vc_some, pm_kl_some, hN, pm_ia_in pm_in9, pm_cl9, hn]
    rw [if_pos (nI_lt (by omega) (by omega))]
    simp only [z115_14, z115_15, z115_16, z115_17, z115_20, z115_21, pm_kv_some, pm_kw_some, pm_k_some, pm_k_void, pm_vc_some, pm_kl_some, q_told1 hN (show k ≤ 20 by omega)]
    by_cases hD : D < Yv R 5 k
    · rw [if_pos hD]
      simp only [z115_76, z115_77, ab_sh, if_pos hD]
    · rw [if_neg hD]
      simp only [z115_24, z115_25, z115_26, z115_27, z115_30, z115_32, z115_33, z115_34, z115_35, z115_38, z115_40, z115_42, z115_45, z115_46, z115_48, z115_49, z115_52, z115_54, z115_55, z115_58, z115_59, z115_61, z115_62, z115_65, z115_66, z115_68, z115_69, z115_70, z115_73, pm_kv_some, pm_kw_some, pm_k_some, pm_k_void, pm_vc_some, pm_kl_some, q_told0 hN (show k ≤ 20 by omega), q_told2 hN (show k ≤ 20 by omega), nI_1, ab_sh, if_neg hD]
      by_cases hs : Yv R 4 k = 0
      · rw [if_pos hs, if_pos hs]; exact ih _ _ _ _ (by omega)
      · rw [if_neg hs, if_neg hs]
        by_cases hs1 : Yv R 4 k = 1
        · rw [if_pos hs1, if_pos hs1]; exact ih _ _ _ _ (by omega)
        · rw [if_neg hs1, if_neg hs1]; exact ih _ _ _ _ (by omega)
theorem q_sharesOf {w : pm_H} {a n : Nat} {R : Nat → Int32} {D : Int32} (hN : w a = some (.inl (0, 103, .inl R))) (hn : R 9 = nI n) (h20 : n ≤ 20) : pm_call 115 [.ref a, .int D] w = some (some (.int (ab_sh (Yv R 4) (Yv R 5) (Yv R 6) D n 0 (R 0))), w) := by
  simp only [pe115, z115_0, z115_1, z115_2, z115_3, z115_4, z115_5, pm_kv_some, pm_kw_some, pm_k_some, pm_k_void, pm_vc_some, pm_kl_some, hN, pm_ia_in pm_in0, pm_cl0]
  exact q_msh_loop hN hn h20 n 0 _ _ _ (by omega)
theorem q_lastDay {w : pm_H} {a n : Nat} {R : Nat → Int32} (hN : w a = some (.inl (0, 103, .inl R))) (hn : R 9 = nI n) (h20 : n ≤ 20) : pm_call 113 [.ref a] w = some (some (.int (if n = 0 then 0 else Yv R 5 (n - 1))), w) := by
  simp only [pe113, z113_0, z113_1, z113_3, z113_4, pm_kv_some, pm_kw_some, pm_k_some, pm_k_void, pm_vc_some, pm_kl_some, hN, pm_ia_in pm_in9, pm_cl9, hn]
  by_cases h : n = 0
  · subst h
    rw [if_pos nI_0, if_pos rfl]
    simp only [z113_7, z113_8, z113_22]
  · obtain ⟨j, rfl⟩ : ∃ j, n = j + 1 := ⟨n - 1, by omega⟩
    rw [if_neg (nI_ne0 (by omega) (by omega)), if_neg h]
    simp only [z113_11, z113_12, z113_13, z113_15, z113_16, z113_17, z113_18, z113_19, z113_22, pm_kv_some, pm_kw_some, pm_k_some, pm_k_void, pm_vc_some, pm_kl_some, hN, pm_ia_in pm_in9, pm_cl9, hn, nI_pred, q_told1 hN (show j ≤ 20 by omega), Nat.add_sub_cancel]
theorem q_mostOf {w : pm_H} {a n : Nat} {R : Nat → Int32} {s : Int32} (hN : w a = some (.inl (0, 103, .inl R))) (hn : R 9 = nI n) (h20 : n ≤ 20) : pm_call 114 [.ref a, .int s] w = some (some (.int (if s = 2 then 9 else if s = 1 then (if ab_sh (Yv R 4) (Yv R 5) (Yv R 6) 360 n 0 (R 0) - 1 < 99999 then ab_sh (Yv R 4) (Yv R 5) (Yv R 6) 360 n 0 (R 0) - 1 else 99999) else 99999)), w) := by
  simp only [pe114, z114_0, z114_1, z114_4, z114_7, z114_8, z114_9, z114_10, z114_11, z114_12, z114_15, z114_17, z114_20, z114_21, z114_22, z114_25, z114_26, z114_28, z114_31, z114_32, z114_35, z114_37, pm_kv_some, pm_kw_some, pm_k_some, pm_k_void, pm_vc_some, pm_kl_some, q_sharesOf hN hn h20]
  split
  · rfl
  · split
    · split <;> rfl
    · rfl
/-- small numbers: d < A + 1 is not A < d -/
theorem pm_lt1 {d A : Int32} (h : A < 2147483647) : (d < A + 1) = ¬ (A < d) := by
  rw [Int32.lt_iff_toInt_lt] at h
  rw [eq_iff_iff, Int32.lt_iff_toInt_lt, Int32.lt_iff_toInt_lt, Int32.toInt_add]
  have h1 : A.toInt < 2147483647 := h
  have h2 := A.le_toInt
  have h3 : (A.toInt + (1 : Int32).toInt).bmod (2 ^ 32) = A.toInt + 1 := by
    show (A.toInt + 1).bmod (2 ^ 32) = A.toInt + 1
    rw [Int.bmod_def]
    omega
  rw [h3]
  omega
theorem q_msp_loop {w : pm_H} {n : Nat} {R S : Nat → Int32} {L : Nat → Int64} {A B : Int32} (hM : w 200 = some (pm_mc S L)) (hN : w 212 = some (.inl (0, 103, .inl R))) (hn : R 9 = nI n) (h20 : n ≤ 20) (hA : A < 2147483647) : ∀ (m k : Nat) (c : Int32), k + m = n → pm_ev 123 5 [some (.ref 200), some (.int A), some (.int B), some (.int c), some (.int (nI k))] [] w = some (some (.int (ab_sp (Yv R 4) (Yv R 5) (Yv R 6) A B m k c)), w) := by
  unfold pm_mc at hM
  intro m
  induction m with
  | zero =>
    intro k c hk
    simp only [z123_5, z123_7, z123_8, z123_11, z123_13, z123_14, pm_kv_some, pm_kw_some, pm_k_some, pm_k_void, pm_vc_some, pm_kl_some, pg6_0, pg6_1, pg6_2, pg6_3, pg6_4, pg6_5, pg6_6, pg6_7, pg6_8, pg6_9, pg6_10, pg6_11, pg6_12, pg6_13, pg6_14, pg6_15, pg6_16, pg6_17, pg6_18, pg6_19, pg6_20, pg6_21, pg6_22, hM, hN, pm_ia_in pm_in9, pm_cl9, hn]
    rw [if_neg (nI_nlt (by omega) (by omega))]
    simp only [z123_70, z123_71, ab_sp]
  | succ m ih =>
    intro k c hk
    simp only [z123_5, z123_7, z123_8, z123_11, z123_13, z123_14, pm_kv_some, pm_kw_some, pm_k_some, pm_k_void, pm_vc_some, pm_kl_some, pg6_0, pg6_1, pg6_2, pg6_3, pg6_4, pg6_5, pg6_6, pg6_7, pg6_8, pg6_9, pg6_10, pg6_11, pg6_12, pg6_13, pg6_14, pg6_15, pg6_16, pg6_17, pg6_18, pg6_19, pg6_20, pg6_21, pg6_22, hM, hN, pm_ia_in pm_in9, pm_cl9, hn]
    rw [if_pos (nI_lt (by omega) (by omega))]
    simp only [z123_17, z123_18, z123_21, z123_23, z123_24, z123_27, z123_28, pm_kv_some, pm_kw_some, pm_k_some, pm_k_void, pm_vc_some, pm_kl_some, pg6_0, pg6_1, pg6_2, pg6_3, pg6_4, pg6_5, pg6_6, pg6_7, pg6_8, pg6_9, pg6_10, pg6_11, pg6_12, pg6_13, pg6_14, pg6_15, pg6_16, pg6_17, pg6_18, pg6_19, pg6_20, pg6_21, pg6_22, hM, q_told0 hN (show k ≤ 20 by omega), ab_sp]
    by_cases hs : Yv R 4 k = 2
    · rw [if_pos hs, if_pos hs]
      simp only [z123_31, z123_32, z123_35, z123_37, z123_38, z123_41, z123_42, z123_43, z123_44, z123_45, z123_48, pm_kv_some, pm_kw_some, pm_k_some, pm_k_void, pm_vc_some, pm_kl_some, pg6_0, pg6_1, pg6_2, pg6_3, pg6_4, pg6_5, pg6_6, pg6_7, pg6_8, pg6_9, pg6_10, pg6_11, pg6_12, pg6_13, pg6_14, pg6_15, pg6_16, pg6_17, pg6_18, pg6_19, pg6_20, pg6_21, pg6_22, hM, q_told1 hN (show k ≤ 20 by omega), q_isIn, pm_lt1 hA]
      by_cases hA2 : A < Yv R 5 k
      · rw [if_neg (show ¬ ¬ A < Yv R 5 k from fun z => z hA2), if_pos hA2]
        by_cases hB : B < Yv R 5 k
        · rw [if_pos hB, if_pos hB, if_pos rfl]
          simp only [z123_64, z123_67, nI_1]
          exact ih _ _ (by omega)
        · rw [if_neg hB, if_neg hB, if_neg (by decide)]
          simp only [z123_51, z123_52, z123_53, z123_56, z123_58, z123_59, z123_62, z123_63, z123_64, z123_67, pm_kv_some, pm_kw_some, pm_k_some, pm_k_void, pm_vc_some, pm_kl_some, pg6_0, pg6_1, pg6_2, pg6_3, pg6_4, pg6_5, pg6_6, pg6_7, pg6_8, pg6_9, pg6_10, pg6_11, pg6_12, pg6_13, pg6_14, pg6_15, pg6_16, pg6_17, pg6_18, pg6_19, pg6_20, pg6_21, pg6_22, hM, q_told2 hN (show k ≤ 20 by omega), nI_1]
          exact ih _ _ (by omega)
      · rw [if_pos hA2, if_neg hA2, if_pos rfl]
        simp only [z123_64, z123_67, nI_1]
        exact ih _ _ (by omega)
    · rw [if_neg hs, if_neg hs]
      simp only [z123_64, z123_67, nI_1]
      exact ih _ _ (by omega)
theorem q_scale {w : pm_H} {n : Nat} {R S : Nat → Int32} {L : Nat → Int64} {A B : Int32} (hM : w 200 = some (pm_mc S L)) (hN : w 212 = some (.inl (0, 103, .inl R))) (hn : R 9 = nI n) (h20 : n ≤ 20) (hA : A < 2147483647) : pm_call 123 [.ref 200, .int A, .int B] w = some (some (.int (ab_sp (Yv R 4) (Yv R 5) (Yv R 6) A B n 0 1)), w) := by
  simp only [pe123, z123_0, z123_1, z123_2, z123_3]
  exact q_msp_loop hM hN hn h20 hA n 0 1 (by omega)
/-- no event lies behind day 359: 360 says no more -/
theorem ab_sp_360 {s d u : Nat → Int32} {A : Int32} {n : Nat} (hd : ∀ k, k < n → ¬ 359 < d k) : ∀ (m k : Nat) (c : Int32), k + m = n → ab_sp s d u A 360 m k c = ab_sp s d u A 359 m k c := by
  intro m
  induction m with
  | zero => intro k c _; rfl
  | succ m ih =>
    intro k c hk
    have h1 := hd k (by omega)
    have h2 : ¬ 360 < d k := fun h => h1 (Int32.lt_trans (by decide) h)
    simp only [ab_sp, if_neg h1, if_neg h2]
    exact ih _ _ (by omega)
theorem pm_iix (i j : Nat) : (71 : Int32) + 4 * nI i + nI j = nI (71 + 4 * i + j) := by
  show nI 71 + nI 4 * nI i + nI j = _
  rw [pk_mul, nI_add, nI_add]
section PMI
variable {w : pm_H} {n i : Nat} {R S : Nat → Int32} {L : Nat → Int64}
theorem q_its {j : Nat} (hM : w 200 = some (pm_mc S L)) (hN : w 212 = some (.inl (0, 103, .inl R))) (hk : 71 + 4 * i + j < 103) : pm_call 131 [.ref 200, .int (nI i), .int (nI j)] w = some (some (.int (R (71 + 4 * i + j))), w) := by
  unfold pm_mc at hM
  simp only [pe131, z131_0, z131_1, z131_4, z131_6, z131_7, z131_8, z131_9, z131_10, z131_11, z131_12, z131_13, pm_kv_some, pm_kw_some, pm_k_some, pm_k_void, pm_vc_some, pm_kl_some, pg6_0, pg6_1, pg6_2, pg6_3, pg6_4, pg6_5, pg6_6, pg6_7, pg6_8, pg6_9, pg6_10, pg6_11, pg6_12, pg6_13, pg6_14, pg6_15, pg6_16, pg6_17, pg6_18, pg6_19, pg6_20, pg6_21, pg6_22, hM, hN, pm_iix, pm_ia_in (vp_in_nI hk (by omega)), nI_clamp (show 71 + 4 * i + j < 2 ^ 31 by omega)]
theorem q_its0 (hM : w 200 = some (pm_mc S L)) (hN : w 212 = some (.inl (0, 103, .inl R))) (hi : i < 8) : pm_call 131 [.ref 200, .int (nI i), .int 0] w = some (some (.int (Yv R 8 i)), w) := q_its (j := 0) hM hN (by omega)
theorem q_its1 (hM : w 200 = some (pm_mc S L)) (hN : w 212 = some (.inl (0, 103, .inl R))) (hi : i < 8) : pm_call 131 [.ref 200, .int (nI i), .int 1] w = some (some (.int (Yv R 9 i)), w) := by
  have h := q_its (j := 1) hM hN (show 71 + 4 * i + 1 < 103 by omega)
  rw [show 71 + 4 * i + 1 = 72 + 4 * i by omega] at h
  exact h
theorem q_its2 (hM : w 200 = some (pm_mc S L)) (hN : w 212 = some (.inl (0, 103, .inl R))) (hi : i < 8) : pm_call 131 [.ref 200, .int (nI i), .int 2] w = some (some (.int (Yv R 10 i)), w) := by
  have h := q_its (j := 2) hM hN (show 71 + 4 * i + 2 < 103 by omega)
  rw [show 71 + 4 * i + 2 = 73 + 4 * i by omega] at h
  exact h
theorem q_its3 (hM : w 200 = some (pm_mc S L)) (hN : w 212 = some (.inl (0, 103, .inl R))) (hi : i < 8) : pm_call 131 [.ref 200, .int (nI i), .int 3] w = some (some (.int (Yv R 11 i)), w) := by
  have h := q_its (j := 3) hM hN (show 71 + 4 * i + 3 < 103 by omega)
  rw [show 71 + 4 * i + 3 = 74 + 4 * i by omega] at h
  exact h
theorem q_restated {D : Int32} (hM : w 200 = some (pm_mc S L)) (hN : w 212 = some (.inl (0, 103, .inl R))) (hn : R 9 = nI n) (h20 : n ≤ 20) (hD : D < 2147483647) (hd : ∀ k, k < n → ¬ 359 < Yv R 5 k) : pm_call 122 [.ref 200, .int D] w = some (some (.int (ab_rs (Yv R) n D)), w) := by
  have hM' := hM
  unfold pm_mc at hM'
  simp only [pe122, z122_0, z122_1, z122_4, z122_5, z122_8, z122_9, z122_10, z122_13, z122_16, z122_17, pm_kv_some, pm_kw_some, pm_k_some, pm_k_void, pm_vc_some, pm_kl_some, pg6_0, pg6_1, pg6_2, pg6_3, pg6_4, pg6_5, pg6_6, pg6_7, pg6_8, pg6_9, pg6_10, pg6_11, pg6_12, pg6_13, pg6_14, pg6_15, pg6_16, pg6_17, pg6_18, pg6_19, pg6_20, pg6_21, pg6_22, hM', q_sharesOf hN hn h20, q_scale hM hN hn h20 hD, ab_sp_360 hd n 0 1 (by omega), ab_rs]
  rfl
theorem q_old (hM : w 200 = some (pm_mc S L)) (hN : w 212 = some (.inl (0, 103, .inl R))) (hn : R 9 = nI n) (h20 : n ≤ 20) (hi : i < 8) (hD : Yv R 9 i < 2147483647) (hd : ∀ k, k < n → ¬ 359 < Yv R 5 k) : pm_call 130 [.ref 200, .int (nI i)] w = some (some (.int (ab_old (Yv R) n i)), w) := by
  have hM' := hM
  unfold pm_mc at hM'
  simp only [pe130, z130_0, z130_1, z130_2, z130_3, z130_6, z130_7, z130_8, z130_9, z130_10, z130_13, z130_16, z130_19, z130_20, pm_kv_some, pm_kw_some, pm_k_some, pm_k_void, pm_vc_some, pm_kl_some, pg6_0, pg6_1, pg6_2, pg6_3, pg6_4, pg6_5, pg6_6, pg6_7, pg6_8, pg6_9, pg6_10, pg6_11, pg6_12, pg6_13, pg6_14, pg6_15, pg6_16, pg6_17, pg6_18, pg6_19, pg6_20, pg6_21, pg6_22, hM', q_its1 hM hN hi, q_its2 hM hN hi, q_scale hM hN hn h20 hD, ab_sp_360 hd n 0 1 (by omega), ab_old]
/-- the day by day sum -/
def ab_wd (Y : Nat → Nat → Int32) (n : Nat) : Nat → Nat → Int64 → Int64
  | 0, _, c => c
  | m + 1, d, c => ab_wd Y n m (d + 1) (c + (ab_rs Y n (nI d)).toInt64)
theorem q_wd_loop {a b : Nat} {a' : Int32} (hM : w 200 = some (pm_mc S L)) (hN : w 212 = some (.inl (0, 103, .inl R))) (hn : R 9 = nI n) (h20 : n ≤ 20) (hd : ∀ k, k < n → ¬ 359 < Yv R 5 k) (hb : b < 4) : ∀ (m d : Nat) (c : Int64), d + m = 90 * b + 90 → pm_ev 134 8 [some (.ref 200), some (.int a'), some (.int (nI b)), some (.long c), none, some (.int (nI d))] [] w = some (some (.long (ab_wd (Yv R) n m d c)), w) := by
  have e1 : (90 : Int32) * nI b + 90 = nI (90 * b + 90) := by
    show nI 90 * nI b + nI 90 = _
    rw [pk_mul, nI_add]
  intro m
  induction m with
  | zero =>
    intro d c hdm
    simp only [z134_8, z134_10, z134_12, z134_13, z134_14, z134_16, z134_17, e1]
    rw [if_neg (nI_nlt (by omega) (by omega))]
    simp only [z134_36, z134_37, ab_wd]
  | succ m ih =>
    intro d c hdm
    have hM' := hM
    unfold pm_mc at hM'
    simp only [z134_8, z134_10, z134_12, z134_13, z134_14, z134_16, z134_17, e1]
    rw [if_pos (nI_lt (by omega) (by omega))]
    simp only [z134_20, z134_21, z134_22, z134_24, z134_27, z134_28, z134_29, z134_30, z134_33, pm_kv_some, pm_kw_some, pm_k_some, pm_k_void, pm_vc_some, pm_kl_some, pg6_0, pg6_1, pg6_2, pg6_3, pg6_4, pg6_5, pg6_6, pg6_7, pg6_8, pg6_9, pg6_10, pg6_11, pg6_12, pg6_13, pg6_14, pg6_15, pg6_16, pg6_17, pg6_18, pg6_19, pg6_20, pg6_21, pg6_22, hM', q_restated hM hN hn h20 (show nI d < 2147483647 from nI_lt (b := 2147483647) (by omega) (by omega)) hd, nI_1, ab_wd]
    exact ih _ _ (by omega)
theorem q_mweightOf {a b : Nat} (hM : w 200 = some (pm_mc S L)) (hN : w 212 = some (.inl (0, 103, .inl R))) (hn : R 9 = nI n) (h20 : n ≤ 20) (hd : ∀ k, k < n → ¬ 359 < Yv R 5 k) (hab : a ≤ b) (hb : b < 4) : pm_call 134 [.ref 200, .int (nI a), .int (nI b)] w = some (some (.long (ab_wd (Yv R) n (90 * b + 90 - 90 * a) (90 * a) 0)), w) := by
  have e0 : (90 : Int32) * nI a = nI (90 * a) := by
    show nI 90 * nI a = _
    rw [pk_mul]
  simp only [pe134, z134_0, z134_1, z134_2, z134_4, z134_5, z134_6, e0]
  exact q_wd_loop (a := a) hM hN hn h20 hd hb _ _ _ (by omega)
/-- the profits of m quarters from q on, as ints -/
def ab_ei (p : Nat → Int32) : Nat → Nat → Int32 → Int32
  | 0, _, c => c
  | m + 1, q, c => ab_ei p m (q + 1) (c + p q)
theorem q_ei_loop {b : Nat} {a' : Int32} (hM : w 200 = some (pm_mc S L)) (hN : w 212 = some (.inl (0, 103, .inl R))) (hb : b < 4) : ∀ (m q : Nat) (c : Int32), q + m = b + 1 → pm_ev 141 5 [some (.ref 200), some (.int a'), some (.int (nI b)), some (.int c), some (.int (nI q))] [] w = some (some (.int (ab_ei (Yv R 1) m q c)), w) := by
  unfold pm_mc at hM
  intro m
  induction m with
  | zero =>
    intro q c hq
    simp only [z141_5, z141_7, z141_8]
    rw [if_pos (nI_lt (by omega) (by omega))]
    simp only [z141_31, z141_32, ab_ei]
  | succ m ih =>
    intro q c hq
    have e1 : (1 : Int32) + 2 * nI q = nI (1 + 2 * q) := by
      show nI 1 + nI 2 * nI q = _
      rw [pk_mul, nI_add]
    simp only [z141_5, z141_7, z141_8]
    rw [if_neg (nI_nlt (by omega) (by omega))]
    simp only [z141_11, z141_12, z141_13, z141_16, z141_17, z141_18, z141_20, z141_21, z141_22, z141_23, z141_24, z141_25, z141_28, pm_kv_some, pm_kw_some, pm_k_some, pm_k_void, pm_vc_some, pm_kl_some, pg6_0, pg6_1, pg6_2, pg6_3, pg6_4, pg6_5, pg6_6, pg6_7, pg6_8, pg6_9, pg6_10, pg6_11, pg6_12, pg6_13, pg6_14, pg6_15, pg6_16, pg6_17, pg6_18, pg6_19, pg6_20, pg6_21, pg6_22, hM, hN, e1, pm_ia_in (vp_in_nI (show 1 + 2 * q < 103 by omega) (by omega)), nI_clamp (show 1 + 2 * q < 2 ^ 31 by omega), nI_1, ab_ei]
    exact ih _ _ (by omega)
theorem q_mearningsOf {a b : Nat} (hM : w 200 = some (pm_mc S L)) (hN : w 212 = some (.inl (0, 103, .inl R))) (hab : a ≤ b) (hb : b < 4) : pm_call 141 [.ref 200, .int (nI a), .int (nI b)] w = some (some (.int (ab_ei (Yv R 1) (b + 1 - a) a 0)), w) := by
  simp only [pe141, z141_0, z141_1, z141_2, z141_3]
  exact q_ei_loop hM hN hb _ _ _ (by omega)
theorem ab_dc_eq (di a b : Int32) : (if 0 < 90 * b + 90 - (if di < 90 * a then 90 * a else di) then 90 * b + 90 - (if di < 90 * a then 90 * a else di) else 0) = ab_dc di a b := by
  have e1 : 90 * b + 90 = (b + 1) * 90 := by rw [Int32.add_mul, Int32.mul_comm, Int32.one_mul]
  have e2 : (if di < 90 * a then 90 * a else di) = ab_mx (a * 90) di := by
    rw [Int32.mul_comm 90 a]
    unfold ab_mx
    by_cases h1 : di < a * 90
    · rw [if_pos h1, if_neg (Int32.lt_asymm h1)]
    · rw [if_neg h1]
      by_cases h2 : a * 90 < di
      · rw [if_pos h2]
      · rw [if_neg h2]
        exact Int32.le_antisymm (Int32.not_lt.mp h2) (Int32.not_lt.mp h1)
  rw [e1, e2]
  unfold ab_dc
  generalize (b + 1) * 90 - ab_mx (a * 90) di = z
  unfold ab_mx
  by_cases h1 : 0 < z
  · rw [if_pos h1, if_neg (Int32.lt_asymm h1)]
  · rw [if_neg h1]
    by_cases h2 : z < 0
    · rw [if_pos h2]
    · rw [if_neg h2]
      exact Int32.le_antisymm (Int32.not_lt.mp h2) (Int32.not_lt.mp h1)
theorem q_counts {a b : Int32} (hM : w 200 = some (pm_mc S L)) (hN : w 212 = some (.inl (0, 103, .inl R))) (hi : i < 8) : pm_call 137 [.ref 200, .int (nI i), .int a, .int b] w = some (some (.int (ab_dc (Yv R 9 i) a b)), w) := by
  have hM' := hM
  unfold pm_mc at hM'
  rw [← ab_dc_eq]
  simp only [pe137, z137_0, z137_2, z137_3, z137_4, z137_5, z137_6, z137_7, z137_10, z137_13, z137_15, z137_16, z137_17, z137_20, z137_21, z137_22, z137_23, z137_26, z137_28, z137_30, z137_31, z137_32, z137_34, z137_35, z137_37, z137_38, z137_40, z137_42, z137_45, z137_47, z137_50, z137_51, pm_kv_some, pm_kw_some, pm_k_some, pm_k_void, pm_vc_some, pm_kl_some, pg6_0, pg6_1, pg6_2, pg6_3, pg6_4, pg6_5, pg6_6, pg6_7, pg6_8, pg6_9, pg6_10, pg6_11, pg6_12, pg6_13, pg6_14, pg6_15, pg6_16, pg6_17, pg6_18, pg6_19, pg6_20, pg6_21, pg6_22, hM', q_its1 hM hN hi]
  by_cases h1 : Yv R 9 i < 90 * a
  · simp only [if_pos h1]
    split <;> rfl
  · simp only [if_neg h1]
    split <;> rfl
theorem q_priceOf {q : Nat} (hM : w 200 = some (pm_mc S L)) (hN : w 212 = some (.inl (0, 103, .inl R))) (hn : R 9 = nI n) (h20 : n ≤ 20) (hi : i < 8) (hq : q < 4) (hD : Yv R 9 i < 2147483647) : pm_call 140 [.ref 200, .int (nI i), .int (nI q)] w = some (some (.int (ab_pr (Yv R) n i q)), w) := by
  have hM' := hM
  unfold pm_mc at hM'
  have e1 : (1 : Int32) + 2 * nI q + 1 = nI (2 + 2 * q) := by
    show nI 1 + nI 2 * nI q + nI 1 = _
    rw [pk_mul, nI_add, nI_add]
    congr 1
    omega
  have e2 : (90 : Int32) * nI q + 89 = (nI q + 1) * 90 - 1 := by
    show nI 90 * nI q + nI 89 = (nI q + nI 1) * nI 90 - nI 1
    rw [pk_mul, nI_add, nI_add, pk_mul, pk_sub (by omega)]
    congr 1
    omega
  simp only [pe140, z140_0, z140_1, z140_4, z140_5, z140_6, z140_7, z140_8, z140_9, z140_10, z140_11, z140_12, z140_13, z140_14, z140_15, z140_16, z140_19, z140_21, z140_22, z140_23, z140_25, z140_26, z140_29, z140_30, pm_kv_some, pm_kw_some, pm_k_some, pm_k_void, pm_vc_some, pm_kl_some, pg6_0, pg6_1, pg6_2, pg6_3, pg6_4, pg6_5, pg6_6, pg6_7, pg6_8, pg6_9, pg6_10, pg6_11, pg6_12, pg6_13, pg6_14, pg6_15, pg6_16, pg6_17, pg6_18, pg6_19, pg6_20, pg6_21, pg6_22, hM', hN, e1, e2, pm_ia_in (vp_in_nI (show 2 + 2 * q < 103 by omega) (by omega)), nI_clamp (show 2 + 2 * q < 2 ^ 31 by omega), q_its1 hM hN hi, q_scale hM hN hn h20 hD, ab_pr]
  rfl
/-- what an option adds in a quarter, by ints -/
def ab_opM (Y : Nat → Nat → Int32) (n i q : Nat) : Int64 :=
  if 0 < ab_pr Y n i q - Y 11 i then (ab_old Y n i).toInt64 * (ab_dc (Y 9 i) (nI q) (nI q)).toInt64 * (ab_pr Y n i q - Y 11 i).toInt64 / (ab_pr Y n i q).toInt64 else 0
theorem q_byOption {q : Nat} (hM : w 200 = some (pm_mc S L)) (hN : w 212 = some (.inl (0, 103, .inl R))) (hn : R 9 = nI n) (h20 : n ≤ 20) (hi : i < 8) (hq : q < 4) (hD : Yv R 9 i < 2147483647) (hd : ∀ k, k < n → ¬ 359 < Yv R 5 k) (hp : 0 < ab_pr (Yv R) n i q - Yv R 11 i → ¬ (ab_pr (Yv R) n i q).toInt64 = 0) : pm_call 139 [.ref 200, .int (nI i), .int (nI q)] w = some (some (.long (ab_opM (Yv R) n i q)), w) := by
  have hM' := hM
  unfold pm_mc at hM'
  simp only [pe139, z139_0, z139_1, z139_2, z139_3, z139_6, z139_7, z139_8, z139_9, z139_10, z139_11, z139_14, z139_15, z139_17, z139_19, pm_kv_some, pm_kw_some, pm_k_some, pm_k_void, pm_vc_some, pm_kl_some, pg6_0, pg6_1, pg6_2, pg6_3, pg6_4, pg6_5, pg6_6, pg6_7, pg6_8, pg6_9, pg6_10, pg6_11, pg6_12, pg6_13, pg6_14, pg6_15, pg6_16, pg6_17, pg6_18, pg6_19, pg6_20, pg6_21, pg6_22, hM', q_its3 hM hN hi, q_priceOf hM hN hn h20 hi hq hD, ab_opM]
  by_cases h : 0 < ab_pr (Yv R) n i q - Yv R 11 i
  · rw [if_pos h, if_pos h]
    simp only [z139_22, z139_23, z139_24, z139_27, z139_28, z139_29, z139_30, z139_31, z139_32, z139_35, z139_36, z139_37, z139_39, z139_40, z139_41, z139_42, z139_43, z139_44, z139_48, pm_kv_some, pm_kw_some, pm_k_some, pm_k_void, pm_vc_some, pm_kl_some, pg6_0, pg6_1, pg6_2, pg6_3, pg6_4, pg6_5, pg6_6, pg6_7, pg6_8, pg6_9, pg6_10, pg6_11, pg6_12, pg6_13, pg6_14, pg6_15, pg6_16, pg6_17, pg6_18, pg6_19, pg6_20, pg6_21, pg6_22, hM', q_old hM hN hn h20 hi hD hd, q_counts hM hN hi, pm_dv_ne (hp h)]
  · rw [if_neg h, if_neg h]
    simp only [z139_47, z139_48]
theorem q_addsEarnings {a b : Nat} (hM : w 200 = some (pm_mc S L)) (hN : w 212 = some (.inl (0, 103, .inl R))) (hi : i < 8) : pm_call 136 [.ref 200, .int (nI i), .int (nI a), .int (nI b)] w = some (some (.long (ab_ae (Yv R) i a b)), w) := by
  have hM' := hM
  unfold pm_mc at hM'
  simp only [pe136, z136_0, z136_1, z136_2, z136_3, z136_6, z136_7, pm_kv_some, pm_kw_some, pm_k_some, pm_k_void, pm_vc_some, pm_kl_some, pg6_0, pg6_1, pg6_2, pg6_3, pg6_4, pg6_5, pg6_6, pg6_7, pg6_8, pg6_9, pg6_10, pg6_11, pg6_12, pg6_13, pg6_14, pg6_15, pg6_16, pg6_17, pg6_18, pg6_19, pg6_20, pg6_21, pg6_22, hM', q_its0 hM hN hi, ab_ae]
  by_cases h : Yv R 8 i = 1
  · rw [if_pos h, if_pos h]
    simp only [z136_10, z136_11, z136_12, z136_13, z136_16, z136_17, z136_18, z136_19, z136_20, z136_21, z136_24, z136_25, z136_26, z136_29, z136_30, z136_34, pm_kv_some, pm_kw_some, pm_k_some, pm_k_void, pm_vc_some, pm_kl_some, pg6_0, pg6_1, pg6_2, pg6_3, pg6_4, pg6_5, pg6_6, pg6_7, pg6_8, pg6_9, pg6_10, pg6_11, pg6_12, pg6_13, pg6_14, pg6_15, pg6_16, pg6_17, pg6_18, pg6_19, pg6_20, pg6_21, pg6_22, hM', q_its3 hM hN hi, q_counts hM hN hi, pm_dv_ne (show ¬ (360 : Int64) = 0 by decide)]
  · rw [if_neg h, if_neg h]
    simp only [z136_33, z136_34]
def ab_opsM (Y : Nat → Nat → Int32) (n i : Nat) : Nat → Nat → Int64 → Int64
  | 0, _, c => c
  | m + 1, q, c => ab_opsM Y n i m (q + 1) (c + ab_opM Y n i q)
theorem q_opsM_loop {a b : Nat} (hM : w 200 = some (pm_mc S L)) (hN : w 212 = some (.inl (0, 103, .inl R))) (hn : R 9 = nI n) (h20 : n ≤ 20) (hi : i < 8) (hb : b < 4) (hD : Yv R 9 i < 2147483647) (hd : ∀ k, k < n → ¬ 359 < Yv R 5 k) (hp : ∀ q, q < 4 → 0 < ab_pr (Yv R) n i q - Yv R 11 i → ¬ (ab_pr (Yv R) n i q).toInt64 = 0) : ∀ (m q : Nat) (c : Int64), q + m = b + 1 → pm_ev 138 39 [some (.ref 200), some (.int (nI i)), some (.int (nI a)), some (.int (nI b)), some (.long c), none, some (.int (nI q))] [] w = some (some (.long (ab_opsM (Yv R) n i m q c)), w) := by
  have hM' := hM
  unfold pm_mc at hM'
  intro m
  induction m with
  | zero =>
    intro q c hq
    simp only [z138_39, z138_41, z138_42]
    rw [if_pos (nI_lt (by omega) (by omega))]
    simp only [z138_63, z138_65, ab_opsM]
  | succ m ih =>
    intro q c hq
    simp only [z138_39, z138_41, z138_42]
    rw [if_neg (nI_nlt (by omega) (by omega))]
    simp only [z138_45, z138_47, z138_48, z138_49, z138_51, z138_54, z138_55, z138_57, z138_60, pm_kv_some, pm_kw_some, pm_k_some, pm_k_void, pm_vc_some, pm_kl_some, hM', q_byOption hM hN hn h20 hi (show q < 4 by omega) hD hd (hp q (by omega)), nI_1, ab_opsM]
    exact ih _ _ (by omega)
/-- what an instrument adds to the weight of a run -/
def ab_awM (Y : Nat → Nat → Int32) (n i a b : Nat) : Int64 :=
  if Y 8 i = 0 then ab_opsM Y n i (b + 1 - a) a 0 else if Y 8 i = 1 then (ab_old Y n i).toInt64 * (ab_dc (Y 9 i) (nI a) (nI b)).toInt64
  else if Y 8 i = 2 then (if ab_ei (Y 1) (b + 1) 0 0 < Y 11 i then 0 else (ab_old Y n i).toInt64 * (ab_dc (Y 9 i) (nI a) (nI b)).toInt64)
  else (if ab_pr Y n i b < Y 11 i then 0 else (ab_old Y n i).toInt64 * (ab_dc (Y 9 i) (nI a) (nI b)).toInt64)
theorem q_addsWeight {a b : Nat} (hM : w 200 = some (pm_mc S L)) (hN : w 212 = some (.inl (0, 103, .inl R))) (hn : R 9 = nI n) (h20 : n ≤ 20) (hi : i < 8) (hab : a ≤ b) (hb : b < 4) (hD : Yv R 9 i < 2147483647) (hd : ∀ k, k < n → ¬ 359 < Yv R 5 k) (hp : ∀ q, q < 4 → 0 < ab_pr (Yv R) n i q - Yv R 11 i → ¬ (ab_pr (Yv R) n i q).toInt64 = 0) : pm_call 138 [.ref 200, .int (nI i), .int (nI a), .int (nI b)] w = some (some (.long (ab_awM (Yv R) n i a b)), w) := by
  have hM' := hM
  unfold pm_mc at hM'
  have he : pm_call 141 [.ref 200, .int 0, .int (nI b)] w = some (some (.int (ab_ei (Yv R 1) (b + 1) 0 0)), w) := q_mearningsOf (a := 0) hM hN (by omega) hb
  simp only [pe138, z138_0, z138_1, z138_3, z138_4, z138_5, z138_6, z138_9, pm_kv_some, pm_kw_some, pm_k_some, pm_k_void, pm_vc_some, pm_kl_some, pg6_0, pg6_1, pg6_2, pg6_3, pg6_4, pg6_5, pg6_6, pg6_7, pg6_8, pg6_9, pg6_10, pg6_11, pg6_12, pg6_13, pg6_14, pg6_15, pg6_16, pg6_17, pg6_18, pg6_19, pg6_20, pg6_21, pg6_22, hM', q_its0 hM hN hi, ab_awM]
  by_cases h0 : Yv R 8 i = 0
  · rw [if_pos h0, if_pos h0]
    simp only [z138_36, z138_37]
    exact q_opsM_loop hM hN hn h20 hi hb hD hd hp _ _ _ (by omega)
  · rw [if_neg h0, if_neg h0]
    by_cases h1 : Yv R 8 i = 1
    · rw [if_pos h1, if_pos h1]
      simp only [z138_66, z138_67, z138_68, z138_71, z138_72, z138_73, z138_74, z138_75, z138_76, z138_79, z138_80, z138_81, pm_kv_some, pm_kw_some, pm_k_some, pm_k_void, pm_vc_some, pm_kl_some, hM', q_old hM hN hn h20 hi hD hd, q_counts hM hN hi]
    · rw [if_neg h1, if_neg h1]
      by_cases h2 : Yv R 8 i = 2
      · rw [if_pos h2, if_pos h2]
        simp only [z138_82, z138_83, z138_84, z138_85, z138_88, z138_89, z138_90, z138_91, z138_94, pm_kv_some, pm_kw_some, pm_k_some, pm_k_void, pm_vc_some, pm_kl_some, hM', he, q_its3 hM hN hi]
        by_cases h3 : ab_ei (Yv R 1) (b + 1) 0 0 < Yv R 11 i
        · rw [if_pos h3, if_pos h3]
          simp only [z138_115, z138_116]
        · rw [if_neg h3, if_neg h3]
          simp only [z138_97, z138_98, z138_99, z138_102, z138_103, z138_104, z138_105, z138_106, z138_107, z138_110, z138_111, z138_112, z138_116, pm_kv_some, pm_kw_some, pm_k_some, pm_k_void, pm_vc_some, pm_kl_some, hM', q_old hM hN hn h20 hi hD hd, q_counts hM hN hi]
      · rw [if_neg h2, if_neg h2]
        simp only [z138_117, z138_118, z138_119, z138_120, z138_123, z138_124, z138_125, z138_126, z138_129, pm_kv_some, pm_kw_some, pm_k_some, pm_k_void, pm_vc_some, pm_kl_some, hM', q_priceOf hM hN hn h20 hi hb hD, q_its3 hM hN hi]
        by_cases h3 : ab_pr (Yv R) n i b < Yv R 11 i
        · rw [if_pos h3, if_pos h3]
          simp only [z138_150, z138_151]
        · rw [if_neg h3, if_neg h3]
          simp only [z138_132, z138_133, z138_134, z138_137, z138_138, z138_139, z138_140, z138_141, z138_142, z138_145, z138_146, z138_147, z138_151, pm_kv_some, pm_kw_some, pm_k_some, pm_k_void, pm_vc_some, pm_kl_some, hM', q_old hM hN hn h20 hi hD hd, q_counts hM hN hi]
end PMI
