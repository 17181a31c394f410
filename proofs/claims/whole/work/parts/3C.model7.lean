/-! THE MODEL, part 7: what changes it -/
def ab_cp (SN R : Nat → Int32) (h j : Nat) : Nat → Int32 := fun p => if 103 * h ≤ p ∧ p < 103 * h + j then R (p - 103 * h) else SN p
def ab_sf (SN : Nat → Int32) (j : Nat) : Nat → Int32 := fun p => if p < j then SN (p + 103) else SN p
def ab_rw (SN R : Nat → Int32) (h j : Nat) : Nat → Int32 := fun p => if p < j then SN (103 * h + p) else R p
theorem ab_cp_0 {SN R : Nat → Int32} {h : Nat} : ab_cp SN R h 0 = SN := by
  funext p; unfold ab_cp; rw [if_neg (by omega)]
theorem ab_cp_s {SN R : Nat → Int32} {h j : Nat} : upd (ab_cp SN R h j) (103 * h + j) (R j) = ab_cp SN R h (j + 1) := by
  funext p
  by_cases e : p = 103 * h + j
  · subst e; rw [pk_us]; unfold ab_cp; rw [if_pos (by omega)]; congr 1; omega
  · rw [pk_un e]; unfold ab_cp
    by_cases c : 103 * h ≤ p ∧ p < 103 * h + j
    · rw [if_pos c, if_pos (by omega)]
    · rw [if_neg c, if_neg (by omega)]
theorem ab_sf_0 {SN : Nat → Int32} : ab_sf SN 0 = SN := by
  funext p; unfold ab_sf; rw [if_neg (by omega)]
theorem ab_sf_s {SN : Nat → Int32} {j : Nat} : upd (ab_sf SN j) j (ab_sf SN j (j + 103)) = ab_sf SN (j + 1) := by
  have e0 : ab_sf SN j (j + 103) = SN (j + 103) := by unfold ab_sf; rw [if_neg (by omega)]
  rw [e0]
  funext p
  by_cases e : p = j
  · subst e; rw [pk_us]; unfold ab_sf; rw [if_pos (by omega)]
  · rw [pk_un e]; unfold ab_sf
    by_cases c : p < j
    · rw [if_pos c, if_pos (by omega)]
    · rw [if_neg c, if_neg (by omega)]
theorem ab_rw_0 {SN R : Nat → Int32} {h : Nat} : ab_rw SN R h 0 = R := by
  funext p; unfold ab_rw; rw [if_neg (by omega)]
theorem ab_rw_s {SN R : Nat → Int32} {h j : Nat} : upd (ab_rw SN R h j) j (SN (103 * h + j)) = ab_rw SN R h (j + 1) := by
  funext p
  by_cases e : p = j
  · subst e; rw [pk_us]; unfold ab_rw; rw [if_pos (by omega)]
  · rw [pk_un e]; unfold ab_rw
    by_cases c : p < j
    · rw [if_pos c, if_pos (by omega)]
    · rw [if_neg c, if_neg (by omega)]
def ab_sn (SN R : Nat → Int32) (h : Nat) : Nat → Int32 := if h < 10 then ab_cp SN R h 103 else ab_cp (ab_sf SN 927) R 9 103
section PMT7
variable {w : pm_H} {TT R RD SN : Nat → Int32} {wt er : Nat → Int64} {rk : Nat → Int32} {s0 s2 s3 s4 s5 s6 s7 s8 s9 s14 s18 s19 s20 : Int32} {l10 l21 l22 : Int64} {n N h : Nat}
theorem m_snap_cp (hh : h < 10) : ∀ (m j : Nat), j + m = 103 → pm_ev 159 51 [some (.ref 200), some (.int (nI j))] [] (pm_Mw w (ab_S s0 s2 s3 s4 s5 s6 s7 s8 s9 (nI h) s18 s19 s20) (ab_Lg l10 l21 l22) TT R RD (ab_cp SN R h j) wt er rk) = some (none, (pm_Mw w (ab_S s0 s2 s3 s4 s5 s6 s7 s8 s9 (nI (h + 1)) s18 s19 s20) (ab_Lg l10 l21 l22) TT R RD (ab_cp SN R h 103) wt er rk)) := by
  intro m
  induction m with
  | zero =>
    intro j hj
    have : j = 103 := by omega
    subst this
    simp only [z159_51, z159_52, z159_54]
    rw [if_neg (by decide)]
    simp only [z159_83, z159_84, z159_85, z159_88, z159_89, z159_90, z159_93, pm_kv_some, pm_kw_some, pm_k_some, pm_k_void, pm_vc_some, pm_kl_some, pg6_0, pg6_1, pg6_2, pg6_3, pg6_4, pg6_5, pg6_6, pg6_7, pg6_8, pg6_9, pg6_10, pg6_11, pg6_12, pg6_13, pg6_14, pg6_15, pg6_16, pg6_17, pg6_18, pg6_19, pg6_20, pg6_21, pg6_22, pp6_0, pp6_2, pp6_3, pp6_4, pp6_5, pp6_6, pp6_7, pp6_8, pp6_9, pp6_10, pp6_14, pp6_18, pp6_19, pp6_20, pp6_21, pp6_22, mw200, aS0, aS2, aS3, aS4, aS5, aS6, aS7, aS8, aS9, aS14, aS18, aS19, aS20, aL10, aL21, aL22, mu200, nI_1]
  | succ m ih =>
    intro j hj
    conv => lhs; simp only [z159_51, z159_52, z159_54]
    rw [if_pos (show nI j < 103 from nI_lt (b := 103) (by omega) (by omega))]
    have e1 : (103 : Int32) * nI h + nI j = nI (103 * h + j) := by rw [show (103 : Int32) = nI 103 from rfl, pk_mul, nI_add]
    simp only [z159_57, z159_58, z159_61, z159_63, z159_64, z159_67, z159_68, z159_69, z159_70, z159_71, z159_74, z159_75, z159_76, z159_77, z159_80, pm_kv_some, pm_kw_some, pm_k_some, pm_k_void, pm_vc_some, pm_kl_some, pg6_0, pg6_1, pg6_2, pg6_3, pg6_4, pg6_5, pg6_6, pg6_7, pg6_8, pg6_9, pg6_10, pg6_11, pg6_12, pg6_13, pg6_14, pg6_15, pg6_16, pg6_17, pg6_18, pg6_19, pg6_20, pg6_21, pg6_22, mw200, mw212, mw214, aS0, aS2, aS3, aS4, aS5, aS6, aS7, aS8, aS9, aS14, aS18, aS19, aS20, aL10, aL21, aL22, e1, pm_ia_in (vp_in_nI (show j < 103 by omega) (by omega)), nI_clamp (show j < 2 ^ 31 by omega), pm_is_in (vp_in_nI (show 103 * h + j < 1030 by omega) (by omega)), nI_clamp (show 103 * h + j < 2 ^ 31 by omega), mu214, ab_cp_s, nI_1]
    exact ih (j + 1) (by omega)
theorem m_snap_sf : ∀ (m j : Nat), j + m = 927 → pm_ev 159 11 [some (.ref 200), some (.int (nI j))] [] (pm_Mw w (ab_S s0 s2 s3 s4 s5 s6 s7 s8 s9 (nI 10) s18 s19 s20) (ab_Lg l10 l21 l22) TT R RD (ab_sf SN j) wt er rk) = some (none, (pm_Mw w (ab_S s0 s2 s3 s4 s5 s6 s7 s8 s9 (nI 10) s18 s19 s20) (ab_Lg l10 l21 l22) TT R RD (ab_cp (ab_sf SN 927) R 9 103) wt er rk)) := by
  intro m
  induction m with
  | zero =>
    intro j hj
    have : j = 927 := by omega
    subst this
    simp only [z159_11, z159_12, z159_15]
    rw [if_neg (by decide)]
    have := m_snap_cp (w := w) (TT := TT) (R := R) (RD := RD) (SN := ab_sf SN 927) (wt := wt) (er := er) (rk := rk) (s0 := s0) (s2 := s2) (s3 := s3) (s4 := s4) (s5 := s5) (s6 := s6) (s7 := s7) (s8 := s8) (s9 := s9) (s18 := s18) (s19 := s19) (s20 := s20) (l10 := l10) (l21 := l21) (l22 := l22) (h := 9) (by omega) 103 0 (by omega)
    rw [ab_cp_0] at this
    simp only [z159_39, z159_40, z159_41, z159_44, z159_45, z159_46, z159_49, z159_50, pm_kv_some, pm_kw_some, pm_k_some, pm_k_void, pm_vc_some, pm_kl_some, pg6_0, pg6_1, pg6_2, pg6_3, pg6_4, pg6_5, pg6_6, pg6_7, pg6_8, pg6_9, pg6_10, pg6_11, pg6_12, pg6_13, pg6_14, pg6_15, pg6_16, pg6_17, pg6_18, pg6_19, pg6_20, pg6_21, pg6_22, pp6_0, pp6_2, pp6_3, pp6_4, pp6_5, pp6_6, pp6_7, pp6_8, pp6_9, pp6_10, pp6_14, pp6_18, pp6_19, pp6_20, pp6_21, pp6_22, mw200, aS0, aS2, aS3, aS4, aS5, aS6, aS7, aS8, aS9, aS14, aS18, aS19, aS20, aL10, aL21, aL22, mu200, nI_pred]
    exact this
  | succ m ih =>
    intro j hj
    conv => lhs; simp only [z159_11, z159_12, z159_15]
    rw [if_pos (show nI j < 927 from nI_lt (b := 927) (by omega) (by omega))]
    have e1 : nI j + 103 = nI (j + 103) := by rw [show (103 : Int32) = nI 103 from rfl, nI_add]
    simp only [z159_18, z159_19, z159_22, z159_23, z159_24, z159_27, z159_28, z159_30, z159_31, z159_32, z159_33, z159_36, pm_kv_some, pm_kw_some, pm_k_some, pm_k_void, pm_vc_some, pm_kl_some, pg6_0, pg6_1, pg6_2, pg6_3, pg6_4, pg6_5, pg6_6, pg6_7, pg6_8, pg6_9, pg6_10, pg6_11, pg6_12, pg6_13, pg6_14, pg6_15, pg6_16, pg6_17, pg6_18, pg6_19, pg6_20, pg6_21, pg6_22, mw200, mw214, aS0, aS2, aS3, aS4, aS5, aS6, aS7, aS8, aS9, aS14, aS18, aS19, aS20, aL10, aL21, aL22, e1, pm_ia_in (vp_in_nI (show j + 103 < 1030 by omega) (by omega)), nI_clamp (show j + 103 < 2 ^ 31 by omega), pm_is_in (vp_in_nI (show j < 1030 by omega) (by omega)), nI_clamp (show j < 2 ^ 31 by omega), mu214, ab_sf_s, nI_1]
    exact ih (j + 1) (by omega)
theorem m_snap (hh : h ≤ 10) : pm_call 159 [.ref 200] (pm_Mw w (ab_S s0 s2 s3 s4 s5 s6 s7 s8 s9 (nI h) s18 s19 s20) (ab_Lg l10 l21 l22) TT R RD SN wt er rk) = some (none, (pm_Mw w (ab_S s0 s2 s3 s4 s5 s6 s7 s8 s9 (nI (ab_hn h)) s18 s19 s20) (ab_Lg l10 l21 l22) TT R RD (ab_sn SN R h) wt er rk)) := by
  simp only [pe159, z159_0, z159_1, z159_4, z159_6, pm_kv_some, pm_kw_some, pm_k_some, pm_k_void, pm_vc_some, pm_kl_some, pg6_0, pg6_1, pg6_2, pg6_3, pg6_4, pg6_5, pg6_6, pg6_7, pg6_8, pg6_9, pg6_10, pg6_11, pg6_12, pg6_13, pg6_14, pg6_15, pg6_16, pg6_17, pg6_18, pg6_19, pg6_20, pg6_21, pg6_22, mw200, aS0, aS2, aS3, aS4, aS5, aS6, aS7, aS8, aS9, aS14, aS18, aS19, aS20, aL10, aL21, aL22]
  unfold ab_hn ab_sn
  by_cases e : h < 10
  · rw [if_neg (show ¬ nI h = 10 from fun z => by have := (nI_eq (a := h) (b := 10) (by omega) (by omega)).mp z; omega), if_pos e, if_pos e]
    have := m_snap_cp (w := w) (TT := TT) (R := R) (RD := RD) (SN := SN) (wt := wt) (er := er) (rk := rk) (s0 := s0) (s2 := s2) (s3 := s3) (s4 := s4) (s5 := s5) (s6 := s6) (s7 := s7) (s8 := s8) (s9 := s9) (s18 := s18) (s19 := s19) (s20 := s20) (l10 := l10) (l21 := l21) (l22 := l22) e 103 0 (by omega)
    rw [ab_cp_0] at this
    simp only [z159_49, z159_50]
    exact this
  · have : h = 10 := by omega
    subst this
    rw [if_pos (show nI 10 = 10 from rfl), if_neg e, if_neg e]
    have := m_snap_sf (w := w) (TT := TT) (R := R) (RD := RD) (SN := SN) (wt := wt) (er := er) (rk := rk) (s0 := s0) (s2 := s2) (s3 := s3) (s4 := s4) (s5 := s5) (s6 := s6) (s7 := s7) (s8 := s8) (s9 := s9) (s18 := s18) (s19 := s19) (s20 := s20) (l10 := l10) (l21 := l21) (l22 := l22) 927 0 (by omega)
    rw [ab_sf_0] at this
    simp only [z159_9, z159_10]
    exact this
theorem ab_mo_M (h : ab_wf (Yv R) n N) {s : Int32} : (if s = 2 then 9 else if s = 1 then (if ab_sh (Yv R 4) (Yv R 5) (Yv R 6) 360 n 0 (R 0) - 1 < 99999 then ab_sh (Yv R 4) (Yv R 5) (Yv R 6) 360 n 0 (R 0) - 1 else 99999) else 99999) = ab_mo (Yv R) n s := by
  have e := ab_sh_360 h
  rw [show Yv R 0 0 = R 0 from rfl] at e
  rw [e]; rfl
/-- what is told -/
theorem m_tells_to (h : ab_wf (Yv R) n N) {s d u : Int32} : pm_call 158 [.ref 200, .int s, .int d, .int u] (pm_Mw w (ab_S s0 s2 s3 s4 s5 s6 s7 s8 s9 s14 s18 s19 s20) (ab_Lg l10 l21 l22) TT R RD SN wt er rk) = if ¬ s < 0 ∧ ¬ 2 < s ∧ ¬ d < ab_ld (Yv R) n ∧ ¬ 359 < d ∧ ¬ u < (if s = 2 then 2 else 1) ∧ ¬ ab_mo (Yv R) n s < u then pm_ev 158 58 [some (.ref 200), some (.int s), some (.int d), some (.int u)] [] (pm_Mw w (ab_S 0 s2 s3 s4 s5 s6 s7 s8 s9 s14 s18 s19 s20) (ab_Lg l10 l21 l22) TT R RD SN wt er rk) else some (some (.int (-1)), (pm_Mw w (ab_S 0 s2 s3 s4 s5 s6 s7 s8 s9 s14 s18 s19 s20) (ab_Lg l10 l21 l22) TT R RD SN wt er rk)) := by
  have hn : R 9 = nI n := h.hn
  have h20 := h.n20
  have fin : pm_ev 158 56 [some (.ref 200), some (.int s), some (.int d), some (.int u)] [] (pm_Mw w (ab_S 0 s2 s3 s4 s5 s6 s7 s8 s9 s14 s18 s19 s20) (ab_Lg l10 l21 l22) TT R RD SN wt er rk) = some (some (.int (-1)), (pm_Mw w (ab_S 0 s2 s3 s4 s5 s6 s7 s8 s9 s14 s18 s19 s20) (ab_Lg l10 l21 l22) TT R RD SN wt er rk)) := by simp only [z158_56, z158_57]
  simp only [pe158, z158_0, z158_1, z158_2, z158_5, z158_6, z158_7, z158_8, z158_11, pm_kv_some, pm_kw_some, pm_k_some, pm_k_void, pm_vc_some, pm_kl_some, pp6_0, pp6_2, pp6_3, pp6_4, pp6_5, pp6_6, pp6_7, pp6_8, pp6_9, pp6_10, pp6_14, pp6_18, pp6_19, pp6_20, pp6_21, pp6_22, mw200, aS0, aS2, aS3, aS4, aS5, aS6, aS7, aS8, aS9, aS14, aS18, aS19, aS20, aL10, aL21, aL22, mu200, q_isIn]
  by_cases c1 : s < 0
  · rw [if_pos c1, if_pos rfl, if_neg (fun z => z.1 c1)]; exact fin
  · rw [if_neg c1]
    by_cases c2 : 2 < s
    · rw [if_pos c2, if_pos rfl, if_neg (fun z => z.2.1 c2)]; exact fin
    · rw [if_neg c2, if_neg (by decide)]
      simp only [z158_14, z158_15, z158_16, z158_19, z158_22, z158_25, z158_28, pm_kv_some, pm_kw_some, pm_k_some, pm_k_void, pm_vc_some, pm_kl_some, pg6_0, pg6_1, pg6_2, pg6_3, pg6_4, pg6_5, pg6_6, pg6_7, pg6_8, pg6_9, pg6_10, pg6_11, pg6_12, pg6_13, pg6_14, pg6_15, pg6_16, pg6_17, pg6_18, pg6_19, pg6_20, pg6_21, pg6_22, mw200, q_lastDay mw212 hn h20, q_isIn]
      rw [show (if n = 0 then (0 : Int32) else Yv R 5 (n - 1)) = ab_ld (Yv R) n from rfl]
      by_cases c3 : d < ab_ld (Yv R) n
      · rw [if_pos c3, if_pos rfl, if_neg (fun z => z.2.2.1 c3)]; exact fin
      · rw [if_neg c3]
        by_cases c4 : 359 < d
        · rw [if_pos c4, if_pos rfl, if_neg (fun z => z.2.2.2.1 c4)]; exact fin
        · rw [if_neg c4, if_neg (by decide)]
          have go : ∀ x : Int32, x = (if s = 2 then 2 else 1) → pm_ev 158 42 [some (.ref 200), some (.int s), some (.int d), some (.int u)] [.int x, .int u] (pm_Mw w (ab_S 0 s2 s3 s4 s5 s6 s7 s8 s9 s14 s18 s19 s20) (ab_Lg l10 l21 l22) TT R RD SN wt er rk) = if ¬ s < 0 ∧ ¬ 2 < s ∧ ¬ d < ab_ld (Yv R) n ∧ ¬ 359 < d ∧ ¬ u < (if s = 2 then 2 else 1) ∧ ¬ ab_mo (Yv R) n s < u then pm_ev 158 58 [some (.ref 200), some (.int s), some (.int d), some (.int u)] [] (pm_Mw w (ab_S 0 s2 s3 s4 s5 s6 s7 s8 s9 s14 s18 s19 s20) (ab_Lg l10 l21 l22) TT R RD SN wt er rk) else some (some (.int (-1)), (pm_Mw w (ab_S 0 s2 s3 s4 s5 s6 s7 s8 s9 s14 s18 s19 s20) (ab_Lg l10 l21 l22) TT R RD SN wt er rk)) := by
            intro x hx
            subst hx
            simp only [z158_42, z158_43, z158_46, z158_47, z158_50, z158_53, pm_kv_some, pm_kw_some, pm_k_some, pm_k_void, pm_vc_some, pm_kl_some, pg6_0, pg6_1, pg6_2, pg6_3, pg6_4, pg6_5, pg6_6, pg6_7, pg6_8, pg6_9, pg6_10, pg6_11, pg6_12, pg6_13, pg6_14, pg6_15, pg6_16, pg6_17, pg6_18, pg6_19, pg6_20, pg6_21, pg6_22, mw200, q_mostOf mw212 hn h20, q_isIn, ab_mo_M h]
            by_cases c5 : u < (if s = 2 then 2 else 1)
            · rw [if_pos c5, if_pos rfl, if_neg (fun z => z.2.2.2.2.1 c5)]; exact fin
            · rw [if_neg c5]
              by_cases c6 : ab_mo (Yv R) n s < u
              · rw [if_pos c6, if_pos rfl, if_neg (fun z => z.2.2.2.2.2 c6)]; exact fin
              · rw [if_neg c6, if_neg (by decide), if_pos ⟨c1, c2, c3, c4, c5, c6⟩]
          simp only [z158_31, z158_32, z158_33, z158_34]
          by_cases c7 : s = 2
          · rw [if_pos c7]; simp only [z158_37, z158_38]; exact go 2 (by rw [if_pos c7])
          · rw [if_neg c7]; simp only [z158_41]; exact go 1 (by rw [if_neg c7])
theorem m_tells_bad (h : ab_wf (Yv R) n N) {s d u : Int32} (hno : ¬ ab_tok (Yv R) n s d u) : pm_call 158 [.ref 200, .int s, .int d, .int u] (pm_Mw w (ab_S s0 s2 s3 s4 s5 s6 s7 s8 s9 s14 s18 s19 s20) (ab_Lg l10 l21 l22) TT R RD SN wt er rk) = some (some (.int (-1)), (pm_Mw w (ab_S 0 s2 s3 s4 s5 s6 s7 s8 s9 s14 s18 s19 s20) (ab_Lg l10 l21 l22) TT R RD SN wt er rk)) := by
  unfold ab_tok at hno
  rw [m_tells_to h, if_neg hno]
theorem m_tells_full (h : ab_wf (Yv R) n N) {s d u : Int32} (hok : ab_tok (Yv R) n s d u) (hr : ¬ ab_room (Yv R) n s) : pm_call 158 [.ref 200, .int s, .int d, .int u] (pm_Mw w (ab_S s0 s2 s3 s4 s5 s6 s7 s8 s9 s14 s18 s19 s20) (ab_Lg l10 l21 l22) TT R RD SN wt er rk) = some (some (.int (-2)), (pm_Mw w (ab_S 0 s2 s3 s4 s5 s6 s7 s8 s9 s14 s18 s19 s20) (ab_Lg l10 l21 l22) TT R RD SN wt er rk)) := by
  unfold ab_tok at hok
  rw [m_tells_to h, if_pos hok]
  simp only [z158_58, z158_59, z158_60, z158_63, pm_kv_some, pm_kw_some, pm_k_some, pm_k_void, pm_vc_some, pm_kl_some, mw200, m_isFull h]
  rw [if_neg (show ¬ (n < 20 ∧ (s = 2 → ab_sc (Yv R 4) n 0 0 < 3)) from hr), if_neg (by decide)]
  simp only [z158_66, z158_68]
theorem m_tells_ok (hw : ab_wf (Yv R) n N) (hh : h ≤ 10) {s d u : Int32} (hok : ab_tok (Yv R) n s d u) (hr : ab_room (Yv R) n s) : pm_call 158 [.ref 200, .int s, .int d, .int u] (pm_Mw w (ab_S s0 s2 s3 s4 s5 s6 s7 s8 s9 (nI h) s18 s19 s20) (ab_Lg l10 l21 l22) TT R RD SN wt er rk) = some (some (.int (nI (n + 1))), (pm_Mw w (ab_S 0 s2 s3 s4 s5 s6 s7 s8 s9 (nI (ab_hn h)) s18 s19 s20) (ab_Lg l10 l21 l22) TT (Rv_ev R n s d u) RD (ab_sn SN R h) wt er rk)) := by
  have hn : R 9 = nI n := hw.hn
  have h9 : Rv_ev R n s d u 9 = nI (n + 1) := by unfold Rv_ev; rw [pk_us]
  unfold ab_tok at hok
  rw [m_tells_to hw, if_pos hok]
  simp only [z158_58, z158_59, z158_60, z158_63, pm_kv_some, pm_kw_some, pm_k_some, pm_k_void, pm_vc_some, pm_kl_some, mw200, m_isFull hw]
  rw [if_pos (show n < 20 ∧ (s = 2 → ab_sc (Yv R 4) n 0 0 < 3) from hr), if_pos rfl]
  simp only [z158_69, z158_70, z158_73, z158_74, z158_75, z158_76, z158_77, z158_80, z158_81, z158_84, z158_86, z158_87, pm_kv_some, pm_kw_some, pm_k_some, pm_k_void, pm_vc_some, pm_kl_some, pg6_0, pg6_1, pg6_2, pg6_3, pg6_4, pg6_5, pg6_6, pg6_7, pg6_8, pg6_9, pg6_10, pg6_11, pg6_12, pg6_13, pg6_14, pg6_15, pg6_16, pg6_17, pg6_18, pg6_19, pg6_20, pg6_21, pg6_22, mw200, mw212, m_snap hh, m_adds_ hn hr.1, pm_ia_in pm_in9, pm_cl9, h9]
/-- what is granted -/
theorem m_grants_to {s d u k : Int32} : pm_call 160 [.ref 200, .int s, .int d, .int u, .int k] (pm_Mw w (ab_S s0 s2 s3 s4 s5 s6 s7 s8 s9 s14 s18 s19 s20) (ab_Lg l10 l21 l22) TT R RD SN wt er rk) = if ¬ s < 0 ∧ ¬ 3 < s ∧ ¬ d < 0 ∧ ¬ 359 < d ∧ ¬ u < 1 ∧ ¬ 9999 < u ∧ ¬ k < (if s = 0 then 1 else 0) ∧ ¬ (if s = 0 then 9999 else 99999) < k then pm_ev 160 63 [some (.ref 200), some (.int s), some (.int d), some (.int u), some (.int k), none] [] (pm_Mw w (ab_S 0 s2 s3 s4 s5 s6 s7 s8 s9 s14 s18 s19 s20) (ab_Lg l10 l21 l22) TT R RD SN wt er rk) else some (some (.int (-1)), (pm_Mw w (ab_S 0 s2 s3 s4 s5 s6 s7 s8 s9 s14 s18 s19 s20) (ab_Lg l10 l21 l22) TT R RD SN wt er rk)) := by
  have fin : pm_ev 160 61 [some (.ref 200), some (.int s), some (.int d), some (.int u), some (.int k), none] [] (pm_Mw w (ab_S 0 s2 s3 s4 s5 s6 s7 s8 s9 s14 s18 s19 s20) (ab_Lg l10 l21 l22) TT R RD SN wt er rk) = some (some (.int (-1)), (pm_Mw w (ab_S 0 s2 s3 s4 s5 s6 s7 s8 s9 s14 s18 s19 s20) (ab_Lg l10 l21 l22) TT R RD SN wt er rk)) := by simp only [z160_61, z160_62]
  simp only [pe160, z160_0, z160_1, z160_2, z160_5, z160_6, z160_7, z160_8, z160_11, pm_kv_some, pm_kw_some, pm_k_some, pm_k_void, pm_vc_some, pm_kl_some, pp6_0, pp6_2, pp6_3, pp6_4, pp6_5, pp6_6, pp6_7, pp6_8, pp6_9, pp6_10, pp6_14, pp6_18, pp6_19, pp6_20, pp6_21, pp6_22, mw200, aS0, aS2, aS3, aS4, aS5, aS6, aS7, aS8, aS9, aS14, aS18, aS19, aS20, aL10, aL21, aL22, mu200, q_isIn]
  by_cases c1 : s < 0
  · rw [if_pos c1, if_pos rfl, if_neg (fun z => z.1 c1)]; exact fin
  · rw [if_neg c1]
    by_cases c2 : 3 < s
    · rw [if_pos c2, if_pos rfl, if_neg (fun z => z.2.1 c2)]; exact fin
    · rw [if_neg c2, if_neg (by decide)]
      simp only [z160_14, z160_15, z160_18, pm_kv_some, pm_kw_some, pm_k_some, pm_k_void, pm_vc_some, pm_kl_some, q_misDay]
      by_cases c3 : d < 0
      · rw [if_pos c3, if_pos rfl, if_neg (fun z => z.2.2.1 c3)]; exact fin
      · rw [if_neg c3]
        by_cases c4 : 359 < d
        · rw [if_pos c4, if_pos rfl, if_neg (fun z => z.2.2.2.1 c4)]; exact fin
        · rw [if_neg c4, if_neg (by decide)]
          simp only [z160_21, z160_22, z160_23, z160_26, z160_29, pm_kv_some, pm_kw_some, pm_k_some, pm_k_void, pm_vc_some, pm_kl_some, q_isIn]
          by_cases c5 : u < 1
          · rw [if_pos c5, if_pos rfl, if_neg (fun z => z.2.2.2.2.1 c5)]; exact fin
          · rw [if_neg c5]
            by_cases c6 : 9999 < u
            · rw [if_pos c6, if_pos rfl, if_neg (fun z => z.2.2.2.2.2.1 c6)]; exact fin
            · rw [if_neg c6, if_neg (by decide)]
              have go : ∀ x y : Int32, x = (if s = 0 then 1 else 0) → y = (if s = 0 then 9999 else 99999) → pm_ev 160 55 [some (.ref 200), some (.int s), some (.int d), some (.int u), some (.int k), none] [.int y, .int x, .int k] (pm_Mw w (ab_S 0 s2 s3 s4 s5 s6 s7 s8 s9 s14 s18 s19 s20) (ab_Lg l10 l21 l22) TT R RD SN wt er rk) = if ¬ s < 0 ∧ ¬ 3 < s ∧ ¬ d < 0 ∧ ¬ 359 < d ∧ ¬ u < 1 ∧ ¬ 9999 < u ∧ ¬ k < (if s = 0 then 1 else 0) ∧ ¬ (if s = 0 then 9999 else 99999) < k then pm_ev 160 63 [some (.ref 200), some (.int s), some (.int d), some (.int u), some (.int k), none] [] (pm_Mw w (ab_S 0 s2 s3 s4 s5 s6 s7 s8 s9 s14 s18 s19 s20) (ab_Lg l10 l21 l22) TT R RD SN wt er rk) else some (some (.int (-1)), (pm_Mw w (ab_S 0 s2 s3 s4 s5 s6 s7 s8 s9 s14 s18 s19 s20) (ab_Lg l10 l21 l22) TT R RD SN wt er rk)) := by
                intro x y hx hy
                subst hx; subst hy
                simp only [z160_55, z160_58, pm_kv_some, pm_kw_some, pm_k_some, pm_k_void, pm_vc_some, pm_kl_some, q_isIn]
                by_cases c7 : k < (if s = 0 then 1 else 0)
                · rw [if_pos c7, if_pos rfl, if_neg (fun z => z.2.2.2.2.2.2.1 c7)]; exact fin
                · rw [if_neg c7]
                  by_cases c8 : (if s = 0 then 9999 else 99999) < k
                  · rw [if_pos c8, if_pos rfl, if_neg (fun z => z.2.2.2.2.2.2.2 c8)]; exact fin
                  · rw [if_neg c8, if_neg (by decide), if_pos ⟨c1, c2, c3, c4, c5, c6, c7, c8⟩]
              simp only [z160_32, z160_34, z160_35]
              by_cases c9 : s = 0
              · rw [if_pos c9]; simp only [z160_38, z160_39, z160_43, z160_44]
                rw [if_pos c9]; simp only [z160_47, z160_50]; exact go 1 9999 (by rw [if_pos c9]) (by rw [if_pos c9])
              · rw [if_neg c9]; simp only [z160_42, z160_43, z160_44]
                rw [if_neg c9]; simp only [z160_53]; exact go 0 99999 (by rw [if_neg c9]) (by rw [if_neg c9])
theorem m_grants_bad {s d u k : Int32} (hno : ¬ ab_gok s d u k) : pm_call 160 [.ref 200, .int s, .int d, .int u, .int k] (pm_Mw w (ab_S s0 s2 s3 s4 s5 s6 s7 s8 s9 s14 s18 s19 s20) (ab_Lg l10 l21 l22) TT R RD SN wt er rk) = some (some (.int (-1)), (pm_Mw w (ab_S 0 s2 s3 s4 s5 s6 s7 s8 s9 s14 s18 s19 s20) (ab_Lg l10 l21 l22) TT R RD SN wt er rk)) := by
  unfold ab_gok at hno
  rw [m_grants_to, if_neg hno]
theorem m_grants_full (hN : R 70 = nI 8) {s d u k : Int32} (hok : ab_gok s d u k) : pm_call 160 [.ref 200, .int s, .int d, .int u, .int k] (pm_Mw w (ab_S s0 s2 s3 s4 s5 s6 s7 s8 s9 s14 s18 s19 s20) (ab_Lg l10 l21 l22) TT R RD SN wt er rk) = some (some (.int (-2)), (pm_Mw w (ab_S 0 s2 s3 s4 s5 s6 s7 s8 s9 s14 s18 s19 s20) (ab_Lg l10 l21 l22) TT R RD SN wt er rk)) := by
  unfold ab_gok at hok
  rw [m_grants_to, if_pos hok]
  simp only [z160_63, z160_64, z160_67, z160_69, z160_70, z160_72, pm_kv_some, pm_kw_some, pm_k_some, pm_k_void, pm_vc_some, pm_kl_some, pg6_0, pg6_1, pg6_2, pg6_3, pg6_4, pg6_5, pg6_6, pg6_7, pg6_8, pg6_9, pg6_10, pg6_11, pg6_12, pg6_13, pg6_14, pg6_15, pg6_16, pg6_17, pg6_18, pg6_19, pg6_20, pg6_21, pg6_22, mw200, mw212, pm_ia_in pm_in70, pm_cl70, hN]
  rw [if_pos (show nI 8 = 8 from rfl)]
  simp only [z160_75, z160_77]
theorem m_grants_ok (hN : R 70 = nI N) (h8 : N < 8) (hh : h ≤ 10) {s d u k : Int32} (hok : ab_gok s d u k) : pm_call 160 [.ref 200, .int s, .int d, .int u, .int k] (pm_Mw w (ab_S s0 s2 s3 s4 s5 s6 s7 s8 s9 (nI h) s18 s19 s20) (ab_Lg l10 l21 l22) TT R RD SN wt er rk) = some (some (.int (nI N)), (pm_Mw w (ab_S 0 s2 s3 s4 s5 s6 s7 s8 s9 (nI (ab_hn h)) s18 s19 s20) (ab_Lg l10 l21 l22) TT (Rv_in R N s d u k) RD (ab_sn SN R h) wt er rk)) := by
  have e0 : (71 : Int32) + 4 * nI N = nI (71 + 4 * N) := by
    have := pm_iix N 0
    rw [show nI 0 = (0 : Int32) from rfl, Int32.add_zero] at this; exact this
  have e2 : nI (71 + 4 * N) + 2 = nI (71 + 4 * N + 2) := by rw [show (2 : Int32) = nI 2 from rfl, nI_add]
  have e3 : nI (71 + 4 * N) + 3 = nI (71 + 4 * N + 3) := by rw [show (3 : Int32) = nI 3 from rfl, nI_add]
  have hv : upd (upd (upd (upd R (71 + 4 * N) s) (71 + 4 * N + 1) d) (71 + 4 * N + 2) u) (71 + 4 * N + 3) k 70 = nI N := by rw [pk_un (by omega), pk_un (by omega), pk_un (by omega), pk_un (by omega), hN]
  unfold ab_gok at hok
  rw [m_grants_to, if_pos hok]
  simp only [z160_63, z160_64, z160_67, z160_69, z160_70, z160_72, pm_kv_some, pm_kw_some, pm_k_some, pm_k_void, pm_vc_some, pm_kl_some, pg6_0, pg6_1, pg6_2, pg6_3, pg6_4, pg6_5, pg6_6, pg6_7, pg6_8, pg6_9, pg6_10, pg6_11, pg6_12, pg6_13, pg6_14, pg6_15, pg6_16, pg6_17, pg6_18, pg6_19, pg6_20, pg6_21, pg6_22, mw200, mw212, pm_ia_in pm_in70, pm_cl70, hN]
  rw [if_neg (show ¬ nI N = 8 from fun z => by have := (nI_eq (a := N) (b := 8) (by omega) (by omega)).mp z; omega)]
  simp only [z160_78, z160_79, z160_82, z160_84, z160_85, z160_86, z160_89, z160_91, z160_92, z160_93, z160_94, z160_96, z160_97, z160_100, z160_102, z160_103, z160_104, z160_105, z160_108, z160_110, z160_111, z160_112, z160_113, z160_114, z160_115, z160_118, z160_120, z160_121, z160_122, z160_123, z160_124, z160_125, z160_128, z160_130, z160_131, z160_132, z160_134, z160_135, z160_136, z160_139, z160_141, z160_142, z160_143, z160_144, z160_145, z160_146, z160_147, z160_150, z160_152, z160_153, z160_154, z160_155, pm_kv_some, pm_kw_some, pm_k_some, pm_k_void, pm_vc_some, pm_kl_some, pg6_0, pg6_1, pg6_2, pg6_3, pg6_4, pg6_5, pg6_6, pg6_7, pg6_8, pg6_9, pg6_10, pg6_11, pg6_12, pg6_13, pg6_14, pg6_15, pg6_16, pg6_17, pg6_18, pg6_19, pg6_20, pg6_21, pg6_22, mw200, mw212, m_snap hh, pm_ia_in pm_in70, pm_is_in pm_in70, pm_cl70, hN, e0, nI_1, e2, e3, pm_is_in (vp_in_nI (show 71 + 4 * N < 103 by omega) (by omega)), nI_clamp (show 71 + 4 * N < 2 ^ 31 by omega), mu212, pm_is_in (vp_in_nI (show 71 + 4 * N + 1 < 103 by omega) (by omega)), nI_clamp (show 71 + 4 * N + 1 < 2 ^ 31 by omega), pm_is_in (vp_in_nI (show 71 + 4 * N + 2 < 103 by omega) (by omega)), nI_clamp (show 71 + 4 * N + 2 < 2 ^ 31 by omega), pm_is_in (vp_in_nI (show 71 + 4 * N + 3 < 103 by omega) (by omega)), nI_clamp (show 71 + 4 * N + 3 < 2 ^ 31 by omega), hv, pk_us, nI_pred]
  rfl
/-- another profit, another price -/
theorem m_becomes (hh : h ≤ 10) {p : Nat} (hp : p < 103) {v : Int32} : pm_call 162 [.ref 200, .int (nI p), .int v] (pm_Mw w (ab_S s0 s2 s3 s4 s5 s6 s7 s8 s9 (nI h) s18 s19 s20) (ab_Lg l10 l21 l22) TT R RD SN wt er rk) = some (some (.int (R p)), (pm_Mw w (ab_S s0 s2 s3 s4 s5 s6 s7 s8 s9 (nI (ab_hn h)) s18 s19 s20) (ab_Lg l10 l21 l22) TT (upd R p v) RD (ab_sn SN R h) wt er rk)) := by
  simp only [pe162, z162_0, z162_1, z162_4, z162_5, z162_8, z162_9, z162_10, z162_11, z162_12, z162_15, z162_16, z162_17, z162_18, z162_19, pm_kv_some, pm_kw_some, pm_k_some, pm_k_void, pm_vc_some, pm_kl_some, pg6_0, pg6_1, pg6_2, pg6_3, pg6_4, pg6_5, pg6_6, pg6_7, pg6_8, pg6_9, pg6_10, pg6_11, pg6_12, pg6_13, pg6_14, pg6_15, pg6_16, pg6_17, pg6_18, pg6_19, pg6_20, pg6_21, pg6_22, mw200, mw212, m_snap hh, pm_ia_in (vp_in_nI hp (show 103 < 2 ^ 31 by omega)), pm_is_in (vp_in_nI hp (show 103 < 2 ^ 31 by omega)), nI_clamp (show p < 2 ^ 31 by omega), mu212]
theorem m_earns_ok (hh : h ≤ 10) {q : Nat} (hq : q < 4) {v : Int32} (h3 : ¬ v < -99999) (h4 : ¬ 99999 < v) : pm_call 161 [.ref 200, .int (nI q), .int v] (pm_Mw w (ab_S s0 s2 s3 s4 s5 s6 s7 s8 s9 (nI h) s18 s19 s20) (ab_Lg l10 l21 l22) TT R RD SN wt er rk) = some (some (.int (Yv R 1 q)), (pm_Mw w (ab_S 0 s2 s3 s4 s5 s6 s7 s8 s9 (nI (ab_hn h)) s18 s19 s20) (ab_Lg l10 l21 l22) TT (upd R (1 + 2 * q) v) RD (ab_sn SN R h) wt er rk)) := by
  have e1 : ¬ 3 < nI q := by rw [show (3 : Int32) = nI 3 from rfl, nI_ltI (by omega) (by omega)]; omega
  have e2 : (1 : Int32) + 2 * nI q = nI (1 + 2 * q) := by rw [show (1 : Int32) = nI 1 from rfl, show (2 : Int32) = nI 2 from rfl, pk_mul, nI_add]
  simp only [pe161, z161_0, z161_1, z161_2, z161_5, z161_6, z161_9, pm_kv_some, pm_kw_some, pm_k_some, pm_k_void, pm_vc_some, pm_kl_some, pp6_0, pp6_2, pp6_3, pp6_4, pp6_5, pp6_6, pp6_7, pp6_8, pp6_9, pp6_10, pp6_14, pp6_18, pp6_19, pp6_20, pp6_21, pp6_22, mw200, aS0, aS2, aS3, aS4, aS5, aS6, aS7, aS8, aS9, aS14, aS18, aS19, aS20, aL10, aL21, aL22, mu200, q_misQuarter]
  rw [if_neg (nI_pos (by omega)), if_neg e1, if_neg (by decide)]
  simp only [z161_12, z161_13, z161_16, z161_18, z161_21, pm_kv_some, pm_kw_some, pm_k_some, pm_k_void, pm_vc_some, pm_kl_some, q_isIn]
  rw [if_neg h3, if_neg h4, if_neg (by decide)]
  simp only [z161_24, z161_25, z161_26, z161_27, z161_28, z161_29, z161_30, z161_31, z161_34, z161_40, pm_kv_some, pm_kw_some, pm_k_some, pm_k_void, pm_vc_some, pm_kl_some, mw200, e2, m_becomes hh (show 1 + 2 * q < 103 by omega)]
  rfl
theorem m_earns_bad {q v : Int32} (hno : ¬ (¬ q < 0 ∧ q < 4 ∧ ¬ v < -99999 ∧ ¬ 99999 < v)) : pm_call 161 [.ref 200, .int q, .int v] (pm_Mw w (ab_S s0 s2 s3 s4 s5 s6 s7 s8 s9 s14 s18 s19 s20) (ab_Lg l10 l21 l22) TT R RD SN wt er rk) = some (some (.int (-1000000000)), (pm_Mw w (ab_S 0 s2 s3 s4 s5 s6 s7 s8 s9 s14 s18 s19 s20) (ab_Lg l10 l21 l22) TT R RD SN wt er rk)) := by
  have fin : pm_ev 161 37 [some (.ref 200), some (.int q), some (.int v)] [] (pm_Mw w (ab_S 0 s2 s3 s4 s5 s6 s7 s8 s9 s14 s18 s19 s20) (ab_Lg l10 l21 l22) TT R RD SN wt er rk) = some (some (.int (-1000000000)), (pm_Mw w (ab_S 0 s2 s3 s4 s5 s6 s7 s8 s9 s14 s18 s19 s20) (ab_Lg l10 l21 l22) TT R RD SN wt er rk)) := by simp only [z161_37, z161_40]
  simp only [pe161, z161_0, z161_1, z161_2, z161_5, z161_6, z161_9, pm_kv_some, pm_kw_some, pm_k_some, pm_k_void, pm_vc_some, pm_kl_some, pp6_0, pp6_2, pp6_3, pp6_4, pp6_5, pp6_6, pp6_7, pp6_8, pp6_9, pp6_10, pp6_14, pp6_18, pp6_19, pp6_20, pp6_21, pp6_22, mw200, aS0, aS2, aS3, aS4, aS5, aS6, aS7, aS8, aS9, aS14, aS18, aS19, aS20, aL10, aL21, aL22, mu200, q_misQuarter]
  by_cases c1 : q < 0
  · rw [if_pos c1, if_pos rfl]; exact fin
  · rw [if_neg c1]
    by_cases c2 : 3 < q
    · rw [if_pos c2, if_pos rfl]; exact fin
    · rw [if_neg c2, if_neg (by decide)]
      simp only [z161_12, z161_13, z161_16, z161_18, z161_21, pm_kv_some, pm_kw_some, pm_k_some, pm_k_void, pm_vc_some, pm_kl_some, q_isIn]
      by_cases c3 : v < -99999
      · rw [if_pos c3, if_pos rfl]; exact fin
      · rw [if_neg c3, if_pos (Classical.byContradiction fun c4 => hno ⟨c1, Classical.byContradiction fun z => c2 (pm_3lt.mpr z), c3, c4⟩), if_pos rfl]; exact fin
theorem m_prices_ok (hh : h ≤ 10) {q : Nat} (hq : q < 4) {v : Int32} (h3 : ¬ v < 1) (h4 : ¬ 9999 < v) : pm_call 163 [.ref 200, .int (nI q), .int v] (pm_Mw w (ab_S s0 s2 s3 s4 s5 s6 s7 s8 s9 (nI h) s18 s19 s20) (ab_Lg l10 l21 l22) TT R RD SN wt er rk) = some (some (.int (Yv R 2 q)), (pm_Mw w (ab_S 0 s2 s3 s4 s5 s6 s7 s8 s9 (nI (ab_hn h)) s18 s19 s20) (ab_Lg l10 l21 l22) TT (upd R (2 + 2 * q) v) RD (ab_sn SN R h) wt er rk)) := by
  have e1 : ¬ 3 < nI q := by rw [show (3 : Int32) = nI 3 from rfl, nI_ltI (by omega) (by omega)]; omega
  have e2 : (1 : Int32) + 2 * nI q + 1 = nI (2 + 2 * q) := by
    have := pm_qix q 1
    rw [show nI 1 = (1 : Int32) from rfl] at this
    rw [this]; congr 1; omega
  simp only [pe163, z163_0, z163_1, z163_2, z163_5, z163_6, z163_9, pm_kv_some, pm_kw_some, pm_k_some, pm_k_void, pm_vc_some, pm_kl_some, pp6_0, pp6_2, pp6_3, pp6_4, pp6_5, pp6_6, pp6_7, pp6_8, pp6_9, pp6_10, pp6_14, pp6_18, pp6_19, pp6_20, pp6_21, pp6_22, mw200, aS0, aS2, aS3, aS4, aS5, aS6, aS7, aS8, aS9, aS14, aS18, aS19, aS20, aL10, aL21, aL22, mu200, q_misQuarter]
  rw [if_neg (nI_pos (by omega)), if_neg e1, if_neg (by decide)]
  simp only [z163_12, z163_13, z163_14, z163_17, z163_20, pm_kv_some, pm_kw_some, pm_k_some, pm_k_void, pm_vc_some, pm_kl_some, q_isIn]
  rw [if_neg h3, if_neg h4, if_neg (by decide)]
  simp only [z163_23, z163_24, z163_25, z163_26, z163_27, z163_28, z163_29, z163_30, z163_31, z163_32, z163_35, z163_39, pm_kv_some, pm_kw_some, pm_k_some, pm_k_void, pm_vc_some, pm_kl_some, mw200, e2, m_becomes hh (show 2 + 2 * q < 103 by omega)]
  rfl
theorem m_prices_bad {q v : Int32} (hno : ¬ (¬ q < 0 ∧ q < 4 ∧ ¬ v < 1 ∧ ¬ 9999 < v)) : pm_call 163 [.ref 200, .int q, .int v] (pm_Mw w (ab_S s0 s2 s3 s4 s5 s6 s7 s8 s9 s14 s18 s19 s20) (ab_Lg l10 l21 l22) TT R RD SN wt er rk) = some (some (.int (-1)), (pm_Mw w (ab_S 0 s2 s3 s4 s5 s6 s7 s8 s9 s14 s18 s19 s20) (ab_Lg l10 l21 l22) TT R RD SN wt er rk)) := by
  have fin : pm_ev 163 38 [some (.ref 200), some (.int q), some (.int v)] [] (pm_Mw w (ab_S 0 s2 s3 s4 s5 s6 s7 s8 s9 s14 s18 s19 s20) (ab_Lg l10 l21 l22) TT R RD SN wt er rk) = some (some (.int (-1)), (pm_Mw w (ab_S 0 s2 s3 s4 s5 s6 s7 s8 s9 s14 s18 s19 s20) (ab_Lg l10 l21 l22) TT R RD SN wt er rk)) := by simp only [z163_38, z163_39]
  simp only [pe163, z163_0, z163_1, z163_2, z163_5, z163_6, z163_9, pm_kv_some, pm_kw_some, pm_k_some, pm_k_void, pm_vc_some, pm_kl_some, pp6_0, pp6_2, pp6_3, pp6_4, pp6_5, pp6_6, pp6_7, pp6_8, pp6_9, pp6_10, pp6_14, pp6_18, pp6_19, pp6_20, pp6_21, pp6_22, mw200, aS0, aS2, aS3, aS4, aS5, aS6, aS7, aS8, aS9, aS14, aS18, aS19, aS20, aL10, aL21, aL22, mu200, q_misQuarter]
  by_cases c1 : q < 0
  · rw [if_pos c1, if_pos rfl]; exact fin
  · rw [if_neg c1]
    by_cases c2 : 3 < q
    · rw [if_pos c2, if_pos rfl]; exact fin
    · rw [if_neg c2, if_neg (by decide)]
      simp only [z163_12, z163_13, z163_14, z163_17, z163_20, pm_kv_some, pm_kw_some, pm_k_some, pm_k_void, pm_vc_some, pm_kl_some, q_isIn]
      by_cases c3 : v < 1
      · rw [if_pos c3, if_pos rfl]; exact fin
      · rw [if_neg c3, if_pos (Classical.byContradiction fun c4 => hno ⟨c1, Classical.byContradiction fun z => c2 (pm_3lt.mpr z), c3, c4⟩), if_pos rfl]; exact fin
/-- undone -/
theorem m_undo_loop (hh : h < 10) : ∀ (m j : Nat), j + m = 103 → pm_ev 164 26 [some (.ref 200), some (.int (nI j))] [] (pm_Mw w (ab_S s0 s2 s3 s4 s5 s6 s7 s8 s9 (nI h) s18 s19 s20) (ab_Lg l10 l21 l22) TT (ab_rw SN R h j) RD SN wt er rk) = some (some (.int (nI h)), (pm_Mw w (ab_S s0 s2 s3 s4 s5 s6 s7 s8 s9 (nI h) s18 s19 s20) (ab_Lg l10 l21 l22) TT (ab_rw SN R h 103) RD SN wt er rk)) := by
  intro m
  induction m with
  | zero =>
    intro j hj
    have : j = 103 := by omega
    subst this
    simp only [z164_26, z164_27, z164_29]
    rw [if_neg (by decide)]
    simp only [z164_58, z164_59, z164_62, pm_kv_some, pm_kw_some, pm_k_some, pm_k_void, pm_vc_some, pm_kl_some, pg6_0, pg6_1, pg6_2, pg6_3, pg6_4, pg6_5, pg6_6, pg6_7, pg6_8, pg6_9, pg6_10, pg6_11, pg6_12, pg6_13, pg6_14, pg6_15, pg6_16, pg6_17, pg6_18, pg6_19, pg6_20, pg6_21, pg6_22, mw200, aS0, aS2, aS3, aS4, aS5, aS6, aS7, aS8, aS9, aS14, aS18, aS19, aS20, aL10, aL21, aL22]
  | succ m ih =>
    intro j hj
    conv => lhs; simp only [z164_26, z164_27, z164_29]
    rw [if_pos (show nI j < 103 from nI_lt (b := 103) (by omega) (by omega))]
    have e1 : (103 : Int32) * nI h + nI j = nI (103 * h + j) := by rw [show (103 : Int32) = nI 103 from rfl, pk_mul, nI_add]
    simp only [z164_32, z164_33, z164_36, z164_37, z164_38, z164_41, z164_43, z164_44, z164_47, z164_48, z164_49, z164_50, z164_51, z164_52, z164_55, pm_kv_some, pm_kw_some, pm_k_some, pm_k_void, pm_vc_some, pm_kl_some, pg6_0, pg6_1, pg6_2, pg6_3, pg6_4, pg6_5, pg6_6, pg6_7, pg6_8, pg6_9, pg6_10, pg6_11, pg6_12, pg6_13, pg6_14, pg6_15, pg6_16, pg6_17, pg6_18, pg6_19, pg6_20, pg6_21, pg6_22, mw200, mw212, mw214, aS0, aS2, aS3, aS4, aS5, aS6, aS7, aS8, aS9, aS14, aS18, aS19, aS20, aL10, aL21, aL22, e1, pm_is_in (vp_in_nI (show j < 103 by omega) (by omega)), nI_clamp (show j < 2 ^ 31 by omega), pm_ia_in (vp_in_nI (show 103 * h + j < 1030 by omega) (by omega)), nI_clamp (show 103 * h + j < 2 ^ 31 by omega), mu212, ab_rw_s, nI_1]
    exact ih (j + 1) (by omega)
theorem m_undo (hh : h < 10) : pm_call 164 [.ref 200] (pm_Mw w (ab_S s0 s2 s3 s4 s5 s6 s7 s8 s9 (nI (h + 1)) s18 s19 s20) (ab_Lg l10 l21 l22) TT R RD SN wt er rk) = some (some (.int (nI h)), (pm_Mw w (ab_S 0 s2 s3 s4 s5 s6 s7 s8 s9 (nI h) s18 s19 s20) (ab_Lg l10 l21 l22) TT (ab_rw SN R h 103) RD SN wt er rk)) := by
  have := m_undo_loop (w := w) (TT := TT) (R := R) (RD := RD) (SN := SN) (wt := wt) (er := er) (rk := rk) (s0 := 0) (s2 := s2) (s3 := s3) (s4 := s4) (s5 := s5) (s6 := s6) (s7 := s7) (s8 := s8) (s9 := s9) (s18 := s18) (s19 := s19) (s20 := s20) (l10 := l10) (l21 := l21) (l22 := l22) hh 103 0 (by omega)
  rw [ab_rw_0] at this
  simp only [pe164, z164_0, z164_1, z164_2, z164_5, z164_6, z164_9, pm_kv_some, pm_kw_some, pm_k_some, pm_k_void, pm_vc_some, pm_kl_some, pg6_0, pg6_1, pg6_2, pg6_3, pg6_4, pg6_5, pg6_6, pg6_7, pg6_8, pg6_9, pg6_10, pg6_11, pg6_12, pg6_13, pg6_14, pg6_15, pg6_16, pg6_17, pg6_18, pg6_19, pg6_20, pg6_21, pg6_22, pp6_0, pp6_2, pp6_3, pp6_4, pp6_5, pp6_6, pp6_7, pp6_8, pp6_9, pp6_10, pp6_14, pp6_18, pp6_19, pp6_20, pp6_21, pp6_22, mw200, aS0, aS2, aS3, aS4, aS5, aS6, aS7, aS8, aS9, aS14, aS18, aS19, aS20, aL10, aL21, aL22, mu200]
  rw [if_neg (nI_ne0 (by omega) (by omega))]
  simp only [z164_14, z164_15, z164_16, z164_19, z164_20, z164_21, z164_24, z164_25, pm_kv_some, pm_kw_some, pm_k_some, pm_k_void, pm_vc_some, pm_kl_some, pg6_0, pg6_1, pg6_2, pg6_3, pg6_4, pg6_5, pg6_6, pg6_7, pg6_8, pg6_9, pg6_10, pg6_11, pg6_12, pg6_13, pg6_14, pg6_15, pg6_16, pg6_17, pg6_18, pg6_19, pg6_20, pg6_21, pg6_22, pp6_0, pp6_2, pp6_3, pp6_4, pp6_5, pp6_6, pp6_7, pp6_8, pp6_9, pp6_10, pp6_14, pp6_18, pp6_19, pp6_20, pp6_21, pp6_22, mw200, aS0, aS2, aS3, aS4, aS5, aS6, aS7, aS8, aS9, aS14, aS18, aS19, aS20, aL10, aL21, aL22, mu200, nI_pred]
  exact this
theorem m_undo0 : pm_call 164 [.ref 200] (pm_Mw w (ab_S s0 s2 s3 s4 s5 s6 s7 s8 s9 (nI 0) s18 s19 s20) (ab_Lg l10 l21 l22) TT R RD SN wt er rk) = some (some (.int (-1)), (pm_Mw w (ab_S 0 s2 s3 s4 s5 s6 s7 s8 s9 (nI 0) s18 s19 s20) (ab_Lg l10 l21 l22) TT R RD SN wt er rk)) := by
  simp only [pe164, z164_0, z164_1, z164_2, z164_5, z164_6, z164_9, pm_kv_some, pm_kw_some, pm_k_some, pm_k_void, pm_vc_some, pm_kl_some, pg6_0, pg6_1, pg6_2, pg6_3, pg6_4, pg6_5, pg6_6, pg6_7, pg6_8, pg6_9, pg6_10, pg6_11, pg6_12, pg6_13, pg6_14, pg6_15, pg6_16, pg6_17, pg6_18, pg6_19, pg6_20, pg6_21, pg6_22, pp6_0, pp6_2, pp6_3, pp6_4, pp6_5, pp6_6, pp6_7, pp6_8, pp6_9, pp6_10, pp6_14, pp6_18, pp6_19, pp6_20, pp6_21, pp6_22, mw200, aS0, aS2, aS3, aS4, aS5, aS6, aS7, aS8, aS9, aS14, aS18, aS19, aS20, aL10, aL21, aL22, mu200]
  rw [if_pos nI_0]
  simp only [z164_12, z164_13]
theorem m_fault : pm_call 118 [.ref 200] (pm_Mw w (ab_S s0 s2 s3 s4 s5 s6 s7 s8 s9 s14 s18 s19 s20) (ab_Lg l10 l21 l22) TT R RD SN wt er rk) = some (some (.int s8), (pm_Mw w (ab_S 0 s2 s3 s4 s5 s6 s7 s8 s9 s14 s18 s19 s20) (ab_Lg l10 l21 l22) TT R RD SN wt er rk)) := by
  simp only [pe118, z118_0, z118_1, z118_2, z118_5, z118_6, z118_9, pm_kv_some, pm_kw_some, pm_k_some, pm_k_void, pm_vc_some, pm_kl_some, pg6_0, pg6_1, pg6_2, pg6_3, pg6_4, pg6_5, pg6_6, pg6_7, pg6_8, pg6_9, pg6_10, pg6_11, pg6_12, pg6_13, pg6_14, pg6_15, pg6_16, pg6_17, pg6_18, pg6_19, pg6_20, pg6_21, pg6_22, pp6_0, pp6_2, pp6_3, pp6_4, pp6_5, pp6_6, pp6_7, pp6_8, pp6_9, pp6_10, pp6_14, pp6_18, pp6_19, pp6_20, pp6_21, pp6_22, mw200, aS0, aS2, aS3, aS4, aS5, aS6, aS7, aS8, aS9, aS14, aS18, aS19, aS20, aL10, aL21, aL22, mu200]
theorem m_thrown : pm_call 86 [.ref 200] (pm_Mw w (ab_S s0 s2 s3 s4 s5 s6 s7 s8 s9 s14 s18 s19 s20) (ab_Lg l10 l21 l22) TT R RD SN wt er rk) = some (some (.int s0), (pm_Mw w (ab_S s0 s2 s3 s4 s5 s6 s7 s8 s9 s14 s18 s19 s20) (ab_Lg l10 l21 l22) TT R RD SN wt er rk)) := by
  simp only [pe86, z86_0, z86_1, z86_4, pm_kv_some, pm_kw_some, pm_k_some, pm_k_void, pm_vc_some, pm_kl_some, pg6_0, pg6_1, pg6_2, pg6_3, pg6_4, pg6_5, pg6_6, pg6_7, pg6_8, pg6_9, pg6_10, pg6_11, pg6_12, pg6_13, pg6_14, pg6_15, pg6_16, pg6_17, pg6_18, pg6_19, pg6_20, pg6_21, pg6_22, mw200, aS0, aS2, aS3, aS4, aS5, aS6, aS7, aS8, aS9, aS14, aS18, aS19, aS20, aL10, aL21, aL22]
/-- the tape -/
def ab_bM (v s : Int32) : Int32 := (v.toUInt32 >>> (s.toUInt32 &&& Int32.toUInt32 31)).toInt32 &&& 255
theorem m_lays_step {t : Nat} {v s : Int32} (ht : t < 740) (hs : ¬ s < 0) : pm_ev 88 3 [some (.ref 200), some (.int v), some (.int s)] [] (pm_Mw w (ab_S s0 (nI t) s3 s4 s5 s6 s7 s8 s9 s14 s18 s19 s20) (ab_Lg l10 l21 l22) TT R RD SN wt er rk) = pm_ev 88 3 [some (.ref 200), some (.int v), some (.int (s + -8))] [] (pm_Mw w (ab_S s0 (nI (t + 1)) s3 s4 s5 s6 s7 s8 s9 s14 s18 s19 s20) (ab_Lg l10 l21 l22) (upd TT t (ab_bM v s)) R RD SN wt er rk) := by
  conv => lhs; rw [z88_3, z88_4]
  rw [if_neg hs]
  simp only [z88_7, z88_8, z88_11, z88_12, z88_15, z88_16, z88_17, z88_18, z88_21, z88_22, z88_23, z88_24, z88_25, z88_28, z88_29, z88_30, z88_33, z88_36, pm_kv_some, pm_kw_some, pm_k_some, pm_k_void, pm_vc_some, pm_kl_some, pg6_0, pg6_1, pg6_2, pg6_3, pg6_4, pg6_5, pg6_6, pg6_7, pg6_8, pg6_9, pg6_10, pg6_11, pg6_12, pg6_13, pg6_14, pg6_15, pg6_16, pg6_17, pg6_18, pg6_19, pg6_20, pg6_21, pg6_22, pp6_0, pp6_2, pp6_3, pp6_4, pp6_5, pp6_6, pp6_7, pp6_8, pp6_9, pp6_10, pp6_14, pp6_18, pp6_19, pp6_20, pp6_21, pp6_22, mw200, mw202, aS0, aS2, aS3, aS4, aS5, aS6, aS7, aS8, aS9, aS14, aS18, aS19, aS20, aL10, aL21, aL22, pm_is_in (vp_in_nI ht (show 740 < 2 ^ 31 by omega)), nI_clamp (show t < 2 ^ 31 by omega), mu202, mu200, nI_1, ab_bM]
def ab_putM (B : Nat → Int32) (n : Nat) (v : Int32) : Nat → Int32 := upd (upd (upd (upd B n (ab_bM v 24)) (n + 1) (ab_bM v 16)) (n + 2) (ab_bM v 8)) (n + 3) (ab_bM v 0)
theorem m_lays {t : Nat} {v : Int32} (ht : t + 4 ≤ 740) : pm_call 88 [.ref 200, .int v] (pm_Mw w (ab_S s0 (nI t) s3 s4 s5 s6 s7 s8 s9 s14 s18 s19 s20) (ab_Lg l10 l21 l22) TT R RD SN wt er rk) = some (none, (pm_Mw w (ab_S s0 (nI (t + 4)) s3 s4 s5 s6 s7 s8 s9 s14 s18 s19 s20) (ab_Lg l10 l21 l22) (ab_putM TT t v) R RD SN wt er rk)) := by
  simp only [pe88, z88_0, z88_2]
  rw [m_lays_step (by omega) (by decide), show (24 : Int32) + -8 = 16 from rfl, m_lays_step (by omega) (by decide), show (16 : Int32) + -8 = 8 from rfl, m_lays_step (by omega) (by decide), show (8 : Int32) + -8 = 0 from rfl, m_lays_step (by omega) (by decide), z88_3, z88_4, if_pos (by decide), z88_39]
  rfl
theorem m_feed {t : Nat} (ht : t ≤ 720) {a b c d e : Int32} : pm_call 87 [.ref 200, .int a, .int b, .int c, .int d, .int e] (pm_Mw w (ab_S s0 (nI t) s3 s4 s5 s6 s7 s8 s9 s14 s18 s19 s20) (ab_Lg l10 l21 l22) TT R RD SN wt er rk) = some (some (.int (nI (t + 20))), (pm_Mw w (ab_S 0 (nI (t + 20)) s3 s4 s5 s6 s7 s8 s9 s14 s18 s19 s20) (ab_Lg l10 l21 l22) (ab_putM (ab_putM (ab_putM (ab_putM (ab_putM TT t a) (t + 4) b) (t + 8) c) (t + 12) d) (t + 16) e) R RD SN wt er rk)) := by
  simp only [pe87, z87_0, z87_1, z87_2, z87_5, z87_6, z87_9, z87_11, z87_12, z87_15, pm_kv_some, pm_kw_some, pm_k_some, pm_k_void, pm_vc_some, pm_kl_some, pg6_0, pg6_1, pg6_2, pg6_3, pg6_4, pg6_5, pg6_6, pg6_7, pg6_8, pg6_9, pg6_10, pg6_11, pg6_12, pg6_13, pg6_14, pg6_15, pg6_16, pg6_17, pg6_18, pg6_19, pg6_20, pg6_21, pg6_22, pp6_0, pp6_2, pp6_3, pp6_4, pp6_5, pp6_6, pp6_7, pp6_8, pp6_9, pp6_10, pp6_14, pp6_18, pp6_19, pp6_20, pp6_21, pp6_22, mw200, aS0, aS2, aS3, aS4, aS5, aS6, aS7, aS8, aS9, aS14, aS18, aS19, aS20, aL10, aL21, aL22, mu200]
  rw [if_neg (show ¬ 740 < nI t + 20 by rw [show (20 : Int32) = nI 20 from rfl, nI_add]; exact nI_nlt (b := t + 20) (a := 740) (by omega) (by omega))]
  simp only [z87_20, z87_21, z87_22, z87_25, z87_26, z87_27, z87_30, z87_31, z87_32, z87_35, z87_36, z87_38, z87_41, z87_42, z87_44, z87_47, z87_48, z87_51, pm_kv_some, pm_kw_some, pm_k_some, pm_k_void, pm_vc_some, pm_kl_some, pg6_0, pg6_1, pg6_2, pg6_3, pg6_4, pg6_5, pg6_6, pg6_7, pg6_8, pg6_9, pg6_10, pg6_11, pg6_12, pg6_13, pg6_14, pg6_15, pg6_16, pg6_17, pg6_18, pg6_19, pg6_20, pg6_21, pg6_22, mw200, aS0, aS2, aS3, aS4, aS5, aS6, aS7, aS8, aS9, aS14, aS18, aS19, aS20, aL10, aL21, aL22, m_lays (show t + 4 ≤ 740 by omega), m_lays (show t + 4 + 4 ≤ 740 by omega), m_lays (show t + 4 + 4 + 4 ≤ 740 by omega), m_lays (show t + 4 + 4 + 4 + 4 ≤ 740 by omega), m_lays (show t + 4 + 4 + 4 + 4 + 4 ≤ 740 by omega)]
theorem m_feed0 {t : Nat} (ht : t ≤ 740) (hx : 720 < t) {a b c d e : Int32} : pm_call 87 [.ref 200, .int a, .int b, .int c, .int d, .int e] (pm_Mw w (ab_S s0 (nI t) s3 s4 s5 s6 s7 s8 s9 s14 s18 s19 s20) (ab_Lg l10 l21 l22) TT R RD SN wt er rk) = some (some (.int (-1)), (pm_Mw w (ab_S 0 (nI t) s3 s4 s5 s6 s7 s8 s9 s14 s18 s19 s20) (ab_Lg l10 l21 l22) TT R RD SN wt er rk)) := by
  simp only [pe87, z87_0, z87_1, z87_2, z87_5, z87_6, z87_9, z87_11, z87_12, z87_15, pm_kv_some, pm_kw_some, pm_k_some, pm_k_void, pm_vc_some, pm_kl_some, pg6_0, pg6_1, pg6_2, pg6_3, pg6_4, pg6_5, pg6_6, pg6_7, pg6_8, pg6_9, pg6_10, pg6_11, pg6_12, pg6_13, pg6_14, pg6_15, pg6_16, pg6_17, pg6_18, pg6_19, pg6_20, pg6_21, pg6_22, pp6_0, pp6_2, pp6_3, pp6_4, pp6_5, pp6_6, pp6_7, pp6_8, pp6_9, pp6_10, pp6_14, pp6_18, pp6_19, pp6_20, pp6_21, pp6_22, mw200, aS0, aS2, aS3, aS4, aS5, aS6, aS7, aS8, aS9, aS14, aS18, aS19, aS20, aL10, aL21, aL22, mu200]
  rw [if_pos (show 740 < nI t + 20 by rw [show (20 : Int32) = nI 20 from rfl, nI_add]; exact nI_lt (a := 740) (by omega) (by omega))]
  simp only [z87_18, z87_19]
theorem m_end {t : Nat} {n : Int32} : pm_call 89 [.ref 200, .int n] (pm_Mw w (ab_S s0 (nI t) s3 s4 s5 s6 s7 s8 s9 s14 s18 s19 s20) (ab_Lg l10 l21 l22) TT R RD SN wt er rk) = some (some (.int (if n < 0 then 0 else if nI t < n then 0 else 1)), if n < 0 then (pm_Mw w (ab_S 0 (nI t) s3 s4 s5 s6 s7 s8 s9 s14 s18 s19 s20) (ab_Lg l10 l21 l22) TT R RD SN wt er rk) else if nI t < n then (pm_Mw w (ab_S 0 (nI t) s3 s4 s5 s6 s7 s8 s9 s14 s18 s19 s20) (ab_Lg l10 l21 l22) TT R RD SN wt er rk) else (pm_Mw w (ab_S 0 n s3 s4 s5 s6 s7 s8 s9 s14 s18 s19 s20) (ab_Lg l10 l21 l22) TT R RD SN wt er rk)) := by
  simp only [pe89, z89_0, z89_1, z89_2, z89_5, z89_6, pm_kv_some, pm_kw_some, pm_k_some, pm_k_void, pm_vc_some, pm_kl_some, pp6_0, pp6_2, pp6_3, pp6_4, pp6_5, pp6_6, pp6_7, pp6_8, pp6_9, pp6_10, pp6_14, pp6_18, pp6_19, pp6_20, pp6_21, pp6_22, mw200, aS0, aS2, aS3, aS4, aS5, aS6, aS7, aS8, aS9, aS14, aS18, aS19, aS20, aL10, aL21, aL22, mu200]
  by_cases c1 : n < 0
  · rw [if_pos c1, if_pos c1, if_pos c1]
    simp only [z89_17, z89_18, pm_zr0]
  · rw [if_neg c1, if_neg c1, if_neg c1]
    simp only [z89_9, z89_10, z89_11, z89_14, pm_kv_some, pm_kw_some, pm_k_some, pm_k_void, pm_vc_some, pm_kl_some, pg6_0, pg6_1, pg6_2, pg6_3, pg6_4, pg6_5, pg6_6, pg6_7, pg6_8, pg6_9, pg6_10, pg6_11, pg6_12, pg6_13, pg6_14, pg6_15, pg6_16, pg6_17, pg6_18, pg6_19, pg6_20, pg6_21, pg6_22, mw200, aS0, aS2, aS3, aS4, aS5, aS6, aS7, aS8, aS9, aS14, aS18, aS19, aS20, aL10, aL21, aL22]
    by_cases c2 : nI t < n
    · rw [if_pos c2, if_pos c2, if_pos c2]
      simp only [z89_17, z89_18, pm_zr0]
    · rw [if_neg c2, if_neg c2, if_neg c2]
      simp only [z89_19, z89_20, z89_21, z89_24, z89_25, pm_kv_some, pm_kw_some, pm_k_some, pm_k_void, pm_vc_some, pm_kl_some, pp6_0, pp6_2, pp6_3, pp6_4, pp6_5, pp6_6, pp6_7, pp6_8, pp6_9, pp6_10, pp6_14, pp6_18, pp6_19, pp6_20, pp6_21, pp6_22, mw200, aS0, aS2, aS3, aS4, aS5, aS6, aS7, aS8, aS9, aS14, aS18, aS19, aS20, aL10, aL21, aL22, mu200, pm_zr1]
end PMT7
