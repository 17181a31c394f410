/-! THE MODEL, part 6: sets, other prices and profits, a further split -/
section PMS
variable {w : pm_H} {TT R RD SN : Nat → Int32} {wt er : Nat → Int64} {rk : Nat → Int32} {s0 s2 s3 s4 s5 s6 s7 s8 s9 s14 s18 s19 s20 : Int32} {l10 l21 l22 : Int64} {n N a b : Nat} {bt : Int32}
theorem q_has {w : pm_H} {s : Int32} {i : Nat} : pm_call 151 [.int s, .int (nI i)] w = some (some (.int (@ite _ (ab_bit s i) (ab_bitd s i) 1 0)), w) := by
  simp only [pe151, z151_0, z151_1, z151_2, z151_3, z151_4, z151_5, z151_6, z151_9, z151_10, z151_13, z151_14, pm_zr0, pm_zr1]
  by_cases c : ab_bit s i
  · rw [if_pos c]; exact if_pos c
  · rw [if_neg c]; exact if_neg c
theorem m_with_loop (h : ab_wf (Yv R) n N) (hab : a ≤ b) (hb : b < 4) {s : Int32} {S : Nat → Int32} {L : Nat → Int64} : ∀ (m i : Nat) (v e : Int64), i + m = N → ¬ ab_sum s (ab_WM (Yv R) n a b) m i v = 0 → pm_ev 150 59 [some (.ref 200), some (.int s), some (.int (nI a)), some (.int (nI b)), some (.long v), none, some (.long e), none, some (.int (nI i))] [] (pm_Mw w S L TT R RD SN wt er rk)
    = some (some (.int (ab_sh_ (ab_sum s (ab_E (Yv R) a b) m i e) (ab_sum s (ab_WM (Yv R) n a b) m i v) (nI a) (nI b))), pm_Mw w S L TT R RD SN wt er rk) := by
  have h8 := h.N8
  have hN : R 70 = nI N := h.hN
  intro m
  induction m with
  | zero =>
    intro i v e hi hv
    simp only [z150_59, z150_61, z150_62, z150_65, z150_67, z150_68, pm_kv_some, pm_kw_some, pm_k_some, pm_k_void, pm_vc_some, pm_kl_some, pg6_0, pg6_1, pg6_2, pg6_3, pg6_4, pg6_5, pg6_6, pg6_7, pg6_8, pg6_9, pg6_10, pg6_11, pg6_12, pg6_13, pg6_14, pg6_15, pg6_16, pg6_17, pg6_18, pg6_19, pg6_20, pg6_21, pg6_22, mw200, mw212, pm_ia_in pm_in70, pm_cl70, hN]
    rw [if_neg (nI_nlt (by omega) (by omega))]
    have hv' : ¬ v = 0 := hv
    simp only [z150_115, z150_117, z150_119, z150_120, z150_121, z150_124, pm_kv_some, pm_kw_some, pm_k_some, pm_k_void, pm_vc_some, pm_kl_some, m_share hv']
    rfl
  | succ m ih =>
    intro i v e hi hv
    conv => lhs; simp only [z150_59, z150_61, z150_62, z150_65, z150_67, z150_68, pm_kv_some, pm_kw_some, pm_k_some, pm_k_void, pm_vc_some, pm_kl_some, pg6_0, pg6_1, pg6_2, pg6_3, pg6_4, pg6_5, pg6_6, pg6_7, pg6_8, pg6_9, pg6_10, pg6_11, pg6_12, pg6_13, pg6_14, pg6_15, pg6_16, pg6_17, pg6_18, pg6_19, pg6_20, pg6_21, pg6_22, mw200, mw212, pm_ia_in pm_in70, pm_cl70, hN]
    rw [if_pos (nI_lt (by omega) (by omega))]
    simp only [z150_71, z150_72, z150_74, z150_77, pm_kv_some, pm_kw_some, pm_k_some, pm_k_void, pm_vc_some, pm_kl_some, q_has]
    have e9 : ∀ (S' : Nat → Int32), pm_call 138 [.ref 200, .int (nI i), .int (nI a), .int (nI b)] (pm_Mw w S L TT R RD SN wt er rk) = some (some (.long (ab_WM (Yv R) n a b i)), pm_Mw w S L TT R RD SN wt er rk) := fun _ => q_addsWeight mwm mw212 h.hn h.n20 (show i < 8 by omega) hab hb (mf_hD h i (by omega)) (mf_hd h) (fun q hq => mf_hp h i q (by omega) hq)
    have e8 : pm_call 136 [.ref 200, .int (nI i), .int (nI a), .int (nI b)] (pm_Mw w S L TT R RD SN wt er rk) = some (some (.long (ab_E (Yv R) a b i)), pm_Mw w S L TT R RD SN wt er rk) := q_addsEarnings mwm mw212 (show i < 8 by omega)
    unfold ab_sum at hv ⊢
    by_cases c : ab_bit s i
    · rw [if_pos c] at hv
      rw [if_pos c, if_neg (by decide), if_pos c, if_pos c]
      simp only [z150_83, z150_85, z150_86, z150_88, z150_89, z150_90, z150_93, z150_94, z150_96, z150_98, z150_99, z150_101, z150_102, z150_103, z150_106, z150_107, z150_109, z150_112, pm_kv_some, pm_kw_some, pm_k_some, pm_k_void, pm_vc_some, pm_kl_some, mw200, e9 S, e8, nI_1]
      exact ih (i + 1) _ _ (by omega) hv
    · rw [if_neg c] at hv
      rw [if_neg c, if_pos rfl, if_neg c, if_neg c]
      simp only [z150_80, z150_109, z150_112, nI_1]
      exact ih (i + 1) _ _ (by omega) hv
theorem m_with (h : ab_wf (Yv R) n N) (hab : a ≤ b) (hb : b < 4) {s : Int32} (hs0 : ¬ s < 0) (hs1 : s < 1 <<< (nI N &&& 31)) : pm_call 150 [.ref 200, .int s, .int (nI a), .int (nI b)] (pm_Mw w (ab_S s0 s2 s3 s4 s5 s6 s7 s8 s9 s14 s18 s19 s20) (ab_Lg l10 l21 l22) TT R RD SN wt er rk) = some (some (.int (ab_with (Yv R) n N a b s)), (pm_Mw w (ab_S 0 s2 s3 s4 s5 s6 s7 s8 s9 s14 s18 s19 s20) (ab_Lg l10 l21 l22) TT R RD SN wt er rk)) := by
  have hN : R 70 = nI N := h.hN
  have hv := ab_withM_v h hab hb hs0 hs1
  have hv0 : ¬ ab_sum s (ab_WM (Yv R) n a b) N 0 (ab_VM (Yv R) n a b) = 0 := fun z => by rw [z] at hv; exact absurd hv (by decide)
  simp only [pe150, z150_0, z150_1, z150_2, z150_5, z150_6, z150_7, z150_10, pm_kv_some, pm_kw_some, pm_k_some, pm_k_void, pm_vc_some, pm_kl_some, pp6_0, pp6_2, pp6_3, pp6_4, pp6_5, pp6_6, pp6_7, pp6_8, pp6_9, pp6_10, pp6_14, pp6_18, pp6_19, pp6_20, pp6_21, pp6_22, mw200, aS0, aS2, aS3, aS4, aS5, aS6, aS7, aS8, aS9, aS14, aS18, aS19, aS20, aL10, aL21, aL22, mu200, q_misRun hab hb]
  rw [if_neg (by decide)]
  simp only [z150_18, z150_19]
  rw [if_neg hs0]
  simp only [z150_22, z150_23, z150_24, z150_25, z150_28, z150_30, z150_31, z150_32, pm_kv_some, pm_kw_some, pm_k_some, pm_k_void, pm_vc_some, pm_kl_some, pg6_0, pg6_1, pg6_2, pg6_3, pg6_4, pg6_5, pg6_6, pg6_7, pg6_8, pg6_9, pg6_10, pg6_11, pg6_12, pg6_13, pg6_14, pg6_15, pg6_16, pg6_17, pg6_18, pg6_19, pg6_20, pg6_21, pg6_22, mw200, mw212, pm_ia_in pm_in70, pm_cl70, hN]
  rw [if_pos hs1]
  simp only [z150_39, z150_40, z150_41, z150_42, z150_45, z150_47, z150_48, z150_49, z150_50, z150_53, z150_54, z150_56, z150_57, pm_kv_some, pm_kw_some, pm_k_some, pm_k_void, pm_vc_some, pm_kl_some, mw200, q_mweightOf mwm mw212 h.hn h.n20 (mf_hd h) hab hb, q_mearningsOf mwm mw212 hab hb]
  rw [← ab_with_M h hab hb hs0 hs1]
  exact m_with_loop h hab hb N 0 _ _ (by omega) hv0
theorem m_with_bad (h : ab_wf (Yv R) n N) (hab : a ≤ b) (hb : b < 4) {s : Int32} (hno : s < 0 ∨ ¬ s < 1 <<< (nI N &&& 31)) : pm_call 150 [.ref 200, .int s, .int (nI a), .int (nI b)] (pm_Mw w (ab_S s0 s2 s3 s4 s5 s6 s7 s8 s9 s14 s18 s19 s20) (ab_Lg l10 l21 l22) TT R RD SN wt er rk) = some (some (.int (-1000000000)), (pm_Mw w (ab_S 0 s2 s3 s4 s5 s6 s7 s8 s9 s14 s18 s19 s20) (ab_Lg l10 l21 l22) TT R RD SN wt er rk)) := by
  have hN : R 70 = nI N := h.hN
  simp only [pe150, z150_0, z150_1, z150_2, z150_5, z150_6, z150_7, z150_10, pm_kv_some, pm_kw_some, pm_k_some, pm_k_void, pm_vc_some, pm_kl_some, pp6_0, pp6_2, pp6_3, pp6_4, pp6_5, pp6_6, pp6_7, pp6_8, pp6_9, pp6_10, pp6_14, pp6_18, pp6_19, pp6_20, pp6_21, pp6_22, mw200, aS0, aS2, aS3, aS4, aS5, aS6, aS7, aS8, aS9, aS14, aS18, aS19, aS20, aL10, aL21, aL22, mu200, q_misRun hab hb]
  rw [if_neg (by decide)]
  simp only [z150_18, z150_19]
  by_cases c : s < 0
  · rw [if_pos c]; simp only [z150_35, z150_38]
  · rw [if_neg c]
    simp only [z150_22, z150_23, z150_24, z150_25, z150_28, z150_30, z150_31, z150_32, pm_kv_some, pm_kw_some, pm_k_some, pm_k_void, pm_vc_some, pm_kl_some, pg6_0, pg6_1, pg6_2, pg6_3, pg6_4, pg6_5, pg6_6, pg6_7, pg6_8, pg6_9, pg6_10, pg6_11, pg6_12, pg6_13, pg6_14, pg6_15, pg6_16, pg6_17, pg6_18, pg6_19, pg6_20, pg6_21, pg6_22, mw200, mw212, pm_ia_in pm_in70, pm_cl70, hN]
    rw [if_neg (hno.resolve_left c)]
    simp only [z150_35, z150_38]
theorem m_with0 {x y v : Int32} (hr : ¬ ab_rok x y) : pm_call 150 [.ref 200, .int v, .int x, .int y] (pm_Mw w (ab_S s0 s2 s3 s4 s5 s6 s7 s8 s9 s14 s18 s19 s20) (ab_Lg l10 l21 l22) TT R RD SN wt er rk) = some (some (.int 0), (pm_Mw w (ab_S 1 s2 s3 s4 s5 s6 s7 s8 s9 s14 s18 s19 s20) (ab_Lg l10 l21 l22) TT R RD SN wt er rk)) := by
  simp only [pe150, z150_0, z150_1, z150_2, z150_5, z150_6, z150_7, z150_10, pm_kv_some, pm_kw_some, pm_k_some, pm_k_void, pm_vc_some, pm_kl_some, pp6_0, pp6_2, pp6_3, pp6_4, pp6_5, pp6_6, pp6_7, pp6_8, pp6_9, pp6_10, pp6_14, pp6_18, pp6_19, pp6_20, pp6_21, pp6_22, mw200, aS0, aS2, aS3, aS4, aS5, aS6, aS7, aS8, aS9, aS14, aS18, aS19, aS20, aL10, aL21, aL22, mu200, q_misRun0 hr]
  rw [if_pos trivial]
  simp only [z150_13, z150_14, z150_17, pm_kv_some, pm_kw_some, pm_k_some, pm_k_void, pm_vc_some, pm_kl_some, mw200, q_refuse]
/-- another number in a place of the row -/
theorem m_dilBy {p : Nat} {v : Int32} (hp : p < 103) (h : ab_wf (Yv (upd R p v)) n N) (hab : a ≤ b) (hb : b < 4) : ∃ (s18' s20' : Int32) (wt' er' : Nat → Int64) (rk' : Nat → Int32) (v' e' : Int64), pm_call 153 [.ref 200, .int (nI p), .int v, .int (nI a), .int (nI b)] (pm_Mw w (ab_S s0 s2 s3 s4 s5 s6 s7 s8 s9 s14 s18 s19 s20) (ab_Lg l10 l21 l22) TT R RD SN wt er rk) = some (some (.int (ab_dil (Yv (upd R p v)) n N a b (-1))), (pm_Mw w (ab_S s0 s2 s3 s4 s5 s6 s7 s8 s9 s14 s18' (ab_T (Yv (upd R p v)) n N a b (-1) (ab_e (Yv (upd R p v)) a b) (ab_e (Yv (upd R p v)) 0 b)).1 s20') (ab_Lg l10 v' e') TT R RD SN wt' er' rk')) := by
  obtain ⟨wt', er', rk', v', e', h1, -⟩ := m_dil (w := w) (TT := TT) (R := upd R p v) (RD := RD) (SN := SN) (wt := wt) (er := er) (rk := rk) (s0 := s0) (s2 := s2) (s3 := s3) (s4 := s4) (s5 := s5) (s6 := s6) (s7 := s7) (s8 := s8) (s9 := s9) (s14 := s14) (s18 := s18) (s19 := s19) (s20 := s20) (l10 := l10) (l21 := l21) (l22 := l22) (bt := -1) h hab hb
  refine ⟨nI (ab_L (Yv (upd R p v)) n N a b (-1) (ab_e (Yv (upd R p v)) 0 b)).length, (ab_T (Yv (upd R p v)) n N a b (-1) (ab_e (Yv (upd R p v)) a b) (ab_e (Yv (upd R p v)) 0 b)).2.1, wt', er', rk', v', e', ?_⟩
  have hin : vp_in (nI p) 103 := vp_in_nI hp (by omega)
  simp only [pe153, z153_0, z153_1, z153_4, z153_5, z153_6, z153_8, z153_9, z153_12, z153_13, z153_14, z153_15, z153_16, z153_17, z153_19, z153_20, z153_23, z153_25, z153_26, z153_29, z153_30, z153_32, z153_33, z153_35, pm_kv_some, pm_kw_some, pm_k_some, pm_k_void, pm_vc_some, pm_kl_some, pg6_0, pg6_1, pg6_2, pg6_3, pg6_4, pg6_5, pg6_6, pg6_7, pg6_8, pg6_9, pg6_10, pg6_11, pg6_12, pg6_13, pg6_14, pg6_15, pg6_16, pg6_17, pg6_18, pg6_19, pg6_20, pg6_21, pg6_22, mw200, mw212, pm_ia_in hin, pm_is_in hin, nI_clamp (show p < 2 ^ 31 by omega), mu212, h1, ab_upd_back]
theorem m_dilx (h : ab_wf (Yv R) n N) (hab : a ≤ b) (hb : b < 4) : ∃ (s18' s19' s20' : Int32) (wt' er' : Nat → Int64) (rk' : Nat → Int32) (v' e' : Int64), pm_call 143 [.ref 200, .int (nI a), .int (nI b), .int bt] (pm_Mw w (ab_S s0 s2 s3 s4 s5 s6 s7 s8 s9 s14 s18 s19 s20) (ab_Lg l10 l21 l22) TT R RD SN wt er rk) = some (some (.int (ab_dil (Yv R) n N a b bt)), (pm_Mw w (ab_S s0 s2 s3 s4 s5 s6 s7 s8 s9 s14 s18' s19' s20') (ab_Lg l10 v' e') TT R RD SN wt' er' rk')) := by
  obtain ⟨wt', er', rk', v', e', h1, -⟩ := m_dil (w := w) (TT := TT) (R := R) (RD := RD) (SN := SN) (wt := wt) (er := er) (rk := rk) (s0 := s0) (s2 := s2) (s3 := s3) (s4 := s4) (s5 := s5) (s6 := s6) (s7 := s7) (s8 := s8) (s9 := s9) (s14 := s14) (s18 := s18) (s19 := s19) (s20 := s20) (l10 := l10) (l21 := l21) (l22 := l22) (bt := bt) h hab hb
  exact ⟨_, _, _, wt', er', rk', v', e', h1⟩
theorem m_priced (h : ab_wf (Yv R) n N) (hab : a ≤ b) (hb : b < 4) {q : Nat} (hq : q < 4) {v : Int32} (h3 : ¬ v < 1) (h4 : ¬ 9999 < v) : ∃ (s18' s19' s20' : Int32) (wt' er' : Nat → Int64) (rk' : Nat → Int32) (v' e' : Int64), pm_call 152 [.ref 200, .int (nI q), .int v, .int (nI a), .int (nI b)] (pm_Mw w (ab_S s0 s2 s3 s4 s5 s6 s7 s8 s9 s14 s18 s19 s20) (ab_Lg l10 l21 l22) TT R RD SN wt er rk) = some (some (.int (ab_dil (ab_set (Yv R) 2 (upd (Yv R 2) q v)) n N a b (-1))), (pm_Mw w (ab_S 0 s2 s3 s4 s5 s6 s7 s8 s9 s14 s18' s19' s20') (ab_Lg l10 v' e') TT R RD SN wt' er' rk')) := by
  have le := Yv_price (R := R) (v := v) h.n20 h.N8 hq
  have iv : ab_I v 1 9999 := by
    rw [i3_lt] at h3 h4
    exact ⟨by have : ¬ v.toInt < (1 : Int) := h3; omega, by have : ¬ (9999 : Int) < v.toInt := h4; omega⟩
  have hw : ab_wf (Yv (upd R (2 + 2 * q) v)) n N := (h.price iv (q := q)).congr le.symm
  obtain ⟨s18', s20', wt', er', rk', v', e', h1⟩ := m_dilBy (w := w) (TT := TT) (R := R) (RD := RD) (SN := SN) (wt := wt) (er := er) (rk := rk) (s0 := 0) (s2 := s2) (s3 := s3) (s4 := s4) (s5 := s5) (s6 := s6) (s7 := s7) (s8 := s8) (s9 := s9) (s14 := s14) (s18 := s18) (s19 := s19) (s20 := s20) (l10 := l10) (l21 := l21) (l22 := l22) (show 2 + 2 * q < 103 by omega) hw hab hb
  rw [le.dil hab hb] at h1
  generalize (ab_T (Yv (upd R (2 + 2 * q) v)) n N a b (-1) (ab_e (Yv (upd R (2 + 2 * q) v)) a b) (ab_e (Yv (upd R (2 + 2 * q) v)) 0 b)).1 = s19' at h1
  refine ⟨s18', s19', s20', wt', er', rk', v', e', ?_⟩
  have e1 : ¬ 3 < nI q := by rw [show (3 : Int32) = nI 3 from rfl, nI_ltI (by omega) (by omega)]; omega
  have e2 : (1 : Int32) + 2 * nI q + 1 = nI (2 + 2 * q) := by
    have := pm_qix q 1
    rw [show nI 1 = (1 : Int32) from rfl] at this
    rw [this]; congr 1; omega
  simp only [pe152, z152_0, z152_1, z152_2, z152_5, z152_6, z152_8, z152_11, pm_kv_some, pm_kw_some, pm_k_some, pm_k_void, pm_vc_some, pm_kl_some, pp6_0, pp6_2, pp6_3, pp6_4, pp6_5, pp6_6, pp6_7, pp6_8, pp6_9, pp6_10, pp6_14, pp6_18, pp6_19, pp6_20, pp6_21, pp6_22, mw200, aS0, aS2, aS3, aS4, aS5, aS6, aS7, aS8, aS9, aS14, aS18, aS19, aS20, aL10, aL21, aL22, mu200, q_misRun hab hb]
  rw [if_neg (by decide)]
  simp only [z152_19, z152_20, z152_23, pm_kv_some, pm_kw_some, pm_k_some, pm_k_void, pm_vc_some, pm_kl_some, q_misQuarter]
  rw [if_neg (nI_pos (by omega)), if_neg e1, if_neg (by decide)]
  simp only [z152_26, z152_27, z152_28, z152_31, z152_34, pm_kv_some, pm_kw_some, pm_k_some, pm_k_void, pm_vc_some, pm_kl_some, q_isIn]
  rw [if_neg h3, if_neg h4, if_neg (by decide)]
  simp only [z152_37, z152_38, z152_39, z152_40, z152_41, z152_42, z152_43, z152_44, z152_45, z152_46, z152_47, z152_49, z152_52, z152_58, pm_kv_some, pm_kw_some, pm_k_some, pm_k_void, pm_vc_some, pm_kl_some, mw200, e2, h1]
theorem m_priced_bad (hab : a ≤ b) (hb : b < 4) {q v : Int32} (hno : ¬ (¬ q < 0 ∧ q < 4 ∧ ¬ v < 1 ∧ ¬ 9999 < v)) : pm_call 152 [.ref 200, .int q, .int v, .int (nI a), .int (nI b)] (pm_Mw w (ab_S s0 s2 s3 s4 s5 s6 s7 s8 s9 s14 s18 s19 s20) (ab_Lg l10 l21 l22) TT R RD SN wt er rk) = some (some (.int (-1000000000)), (pm_Mw w (ab_S 0 s2 s3 s4 s5 s6 s7 s8 s9 s14 s18 s19 s20) (ab_Lg l10 l21 l22) TT R RD SN wt er rk)) := by
  have fin : pm_ev 152 55 [some (.ref 200), some (.int q), some (.int v), some (.int (nI a)), some (.int (nI b))] [] (pm_Mw w (ab_S 0 s2 s3 s4 s5 s6 s7 s8 s9 s14 s18 s19 s20) (ab_Lg l10 l21 l22) TT R RD SN wt er rk) = some (some (.int (-1000000000)), (pm_Mw w (ab_S 0 s2 s3 s4 s5 s6 s7 s8 s9 s14 s18 s19 s20) (ab_Lg l10 l21 l22) TT R RD SN wt er rk)) := by simp only [z152_55, z152_58]
  simp only [pe152, z152_0, z152_1, z152_2, z152_5, z152_6, z152_8, z152_11, pm_kv_some, pm_kw_some, pm_k_some, pm_k_void, pm_vc_some, pm_kl_some, pp6_0, pp6_2, pp6_3, pp6_4, pp6_5, pp6_6, pp6_7, pp6_8, pp6_9, pp6_10, pp6_14, pp6_18, pp6_19, pp6_20, pp6_21, pp6_22, mw200, aS0, aS2, aS3, aS4, aS5, aS6, aS7, aS8, aS9, aS14, aS18, aS19, aS20, aL10, aL21, aL22, mu200, q_misRun hab hb]
  rw [if_neg (by decide)]
  simp only [z152_19, z152_20, z152_23, pm_kv_some, pm_kw_some, pm_k_some, pm_k_void, pm_vc_some, pm_kl_some, q_misQuarter]
  by_cases c1 : q < 0
  · rw [if_pos c1, if_pos rfl]; exact fin
  · rw [if_neg c1]
    by_cases c2 : 3 < q
    · rw [if_pos c2, if_pos rfl]; exact fin
    · rw [if_neg c2, if_neg (by decide)]
      simp only [z152_26, z152_27, z152_28, z152_31, z152_34, pm_kv_some, pm_kw_some, pm_k_some, pm_k_void, pm_vc_some, pm_kl_some, q_isIn]
      by_cases c3 : v < 1
      · rw [if_pos c3, if_pos rfl]; exact fin
      · rw [if_neg c3, if_pos (Classical.byContradiction fun c4 => hno ⟨c1, Classical.byContradiction fun z => c2 (pm_3lt.mpr z), c3, c4⟩), if_pos rfl]; exact fin
theorem m_priced0 {x y q v : Int32} (hr : ¬ ab_rok x y) : pm_call 152 [.ref 200, .int q, .int v, .int x, .int y] (pm_Mw w (ab_S s0 s2 s3 s4 s5 s6 s7 s8 s9 s14 s18 s19 s20) (ab_Lg l10 l21 l22) TT R RD SN wt er rk) = some (some (.int 0), (pm_Mw w (ab_S 1 s2 s3 s4 s5 s6 s7 s8 s9 s14 s18 s19 s20) (ab_Lg l10 l21 l22) TT R RD SN wt er rk)) := by
  simp only [pe152, z152_0, z152_1, z152_2, z152_5, z152_6, z152_8, z152_11, pm_kv_some, pm_kw_some, pm_k_some, pm_k_void, pm_vc_some, pm_kl_some, pp6_0, pp6_2, pp6_3, pp6_4, pp6_5, pp6_6, pp6_7, pp6_8, pp6_9, pp6_10, pp6_14, pp6_18, pp6_19, pp6_20, pp6_21, pp6_22, mw200, aS0, aS2, aS3, aS4, aS5, aS6, aS7, aS8, aS9, aS14, aS18, aS19, aS20, aL10, aL21, aL22, mu200, q_misRun0 hr]
  rw [if_pos trivial]
  simp only [z152_14, z152_15, z152_18, pm_kv_some, pm_kw_some, pm_k_some, pm_k_void, pm_vc_some, pm_kl_some, mw200, q_refuse]
theorem ab_pl_c {c c' : Nat → Prop} {dec : ∀ k, Decidable (c k)} {dec' : ∀ k, Decidable (c' k)} (h : ∀ k, k < 1000 → (c k ↔ c' k)) : ∀ (m k : Nat), k + m ≤ 1000 → ab_pl c dec m k = ab_pl c' dec' m k := by
  intro m
  induction m with
  | zero => intro k _; rfl
  | succ m ih =>
    intro k hk
    unfold ab_pl
    have := h k (by omega)
    by_cases e : c k
    · rw [if_pos e, if_pos (this.mp e)]
    · rw [if_neg e, if_neg (fun z => e (this.mpr z)), ih _ (by omega)]
theorem m_profit_loop (h : ab_wf (Yv R) n N) (hab : a ≤ b) (hb : b < 4) {q i : Nat} (hq : q < 4) : ∀ (m k : Nat) (s18 s19 s20 : Int32) (l21 l22 : Int64) (wt er : Nat → Int64) (rk : Nat → Int32), k + m = 1000 → ∃ (s18' s19' s20' : Int32) (wt' er' : Nat → Int64) (rk' : Nat → Int32) (v' e' : Int64), pm_ev 154 39 [some (.ref 200), some (.int (nI q)), some (.int (nI i)), some (.int (nI a)), some (.int (nI b)), some (.int (nI (100 * k)))] [] (pm_Mw w (ab_S s0 s2 s3 s4 s5 s6 s7 s8 s9 s14 s18 s19 s20) (ab_Lg l10 l21 l22) TT R RD SN wt er rk) = some (some (.int (ab_pl (ab_pc (Yv R) n N a b q i) (ab_pcd (Yv R) n N a b q i) m k)), (pm_Mw w (ab_S s0 s2 s3 s4 s5 s6 s7 s8 s9 s14 s18' s19' s20') (ab_Lg l10 v' e') TT R RD SN wt' er' rk')) := by
  intro m
  induction m with
  | zero =>
    intro k s18 s19 s20 l21 l22 wt er rk hk
    refine ⟨s18, s19, s20, wt, er, rk, l21, l22, ?_⟩
    have : k = 1000 := by omega
    subst this
    simp only [z154_39, z154_41, z154_43]
    rw [if_neg (by decide)]
    simp only [z154_81, z154_83]
    rfl
  | succ m ih =>
    intro k s18 s19 s20 l21 l22 wt er rk hk
    have le := Yv_profit (R := R) (v := nI (100 * k)) h.n20 h.N8 hq
    have tk : (nI (100 * k)).toInt = 100 * k := by rw [nI_toInt (by omega)]; omega
    have iv : ab_I (nI (100 * k)) (-99999) 99999 := ⟨by omega, by omega⟩
    have hw : ab_wf (Yv (upd R (1 + 2 * q) (nI (100 * k)))) n N := (h.profit iv (q := q)).congr le.symm
    obtain ⟨s18', s20', wt', er', rk', v', e', h1⟩ := m_dilBy (w := w) (TT := TT) (R := R) (RD := RD) (SN := SN) (wt := wt) (er := er) (rk := rk) (s0 := s0) (s2 := s2) (s3 := s3) (s4 := s4) (s5 := s5) (s6 := s6) (s7 := s7) (s8 := s8) (s9 := s9) (s14 := s14) (s18 := s18) (s19 := s19) (s20 := s20) (l10 := l10) (l21 := l21) (l22 := l22) (show 1 + 2 * q < 103 by omega) hw hab hb
    have eT : ab_T (Yv (upd R (1 + 2 * q) (nI (100 * k)))) n N a b (-1) (ab_e (Yv (upd R (1 + 2 * q) (nI (100 * k)))) a b) (ab_e (Yv (upd R (1 + 2 * q) (nI (100 * k)))) 0 b) = ab_T (Yv R) n N a b (-1) (ab_oth (Yv R) a b q (nI (100 * k))) (ab_oth (Yv R) 0 b q (nI (100 * k))) := by
      rw [le.T hab hb, le.e hb, le.e hb, ab_e_oth hab, ab_e_oth (by omega), ab_T_1]
    rw [eT] at h1
    have e2 : (1 : Int32) + 2 * nI q = nI (1 + 2 * q) := by
      rw [show (1 : Int32) = nI 1 from rfl, show (2 : Int32) = nI 2 from rfl, pk_mul, nI_add]
    have e3 : nI (100 * k) < 99999 := by
      rw [i3_lt, tk]
      show (100 * (k : Int)) < 99999
      omega
    have st : pm_ev 154 39 [some (.ref 200), some (.int (nI q)), some (.int (nI i)), some (.int (nI a)), some (.int (nI b)), some (.int (nI (100 * k)))] [] (pm_Mw w (ab_S s0 s2 s3 s4 s5 s6 s7 s8 s9 s14 s18 s19 s20) (ab_Lg l10 l21 l22) TT R RD SN wt er rk) = @ite _ (ab_pc (Yv R) n N a b q i k) (ab_pcd (Yv R) n N a b q i k) (some (some (.int (nI (100 * k))), (pm_Mw w (ab_S s0 s2 s3 s4 s5 s6 s7 s8 s9 s14 s18' (ab_T (Yv R) n N a b (-1) (ab_oth (Yv R) a b q (nI (100 * k))) (ab_oth (Yv R) 0 b q (nI (100 * k)))).1 s20') (ab_Lg l10 v' e') TT R RD SN wt' er' rk'))) (pm_ev 154 39 [some (.ref 200), some (.int (nI q)), some (.int (nI i)), some (.int (nI a)), some (.int (nI b)), some (.int (nI (100 * (k + 1))))] [] (pm_Mw w (ab_S s0 s2 s3 s4 s5 s6 s7 s8 s9 s14 s18' (ab_T (Yv R) n N a b (-1) (ab_oth (Yv R) a b q (nI (100 * k))) (ab_oth (Yv R) 0 b q (nI (100 * k)))).1 s20') (ab_Lg l10 v' e') TT R RD SN wt' er' rk')) := by
      conv => lhs; simp only [z154_39, z154_41, z154_43]
      rw [if_pos e3]
      simp only [z154_46, z154_47, z154_48, z154_49, z154_50, z154_51, z154_52, z154_54, z154_55, z154_57, z154_60, z154_61, z154_62, z154_65, z154_66, z154_69, pm_kv_some, pm_kw_some, pm_k_some, pm_k_void, pm_vc_some, pm_kl_some, pg6_0, pg6_1, pg6_2, pg6_3, pg6_4, pg6_5, pg6_6, pg6_7, pg6_8, pg6_9, pg6_10, pg6_11, pg6_12, pg6_13, pg6_14, pg6_15, pg6_16, pg6_17, pg6_18, pg6_19, pg6_20, pg6_21, pg6_22, mw200, aS0, aS2, aS3, aS4, aS5, aS6, aS7, aS8, aS9, aS14, aS18, aS19, aS20, aL10, aL21, aL22, e2, h1, q_has]
      by_cases c : ab_pc (Yv R) n N a b q i k
      · have c' : ab_bit (ab_T (Yv R) n N a b (-1) (ab_oth (Yv R) a b q (nI (100 * k))) (ab_oth (Yv R) 0 b q (nI (100 * k)))).1 i := c
        rw [if_pos c, if_pos c', if_neg (by decide)]
        simp only [z154_72, z154_74]
      · have c' : ¬ ab_bit (ab_T (Yv R) n N a b (-1) (ab_oth (Yv R) a b q (nI (100 * k))) (ab_oth (Yv R) 0 b q (nI (100 * k)))).1 i := c
        rw [if_neg c, if_neg c', if_pos rfl]
        conv => lhs; simp only [z154_75, z154_78]
        rw [show nI (100 * k) + 100 = nI (100 * (k + 1)) by rw [show (100 : Int32) = nI 100 from rfl, nI_add]; congr 1]
    rw [st]
    by_cases c : ab_pc (Yv R) n N a b q i k
    · refine ⟨s18', (ab_T (Yv R) n N a b (-1) (ab_oth (Yv R) a b q (nI (100 * k))) (ab_oth (Yv R) 0 b q (nI (100 * k)))).1, s20', wt', er', rk', v', e', ?_⟩
      rw [if_pos c]
      unfold ab_pl
      rw [if_pos c]
    · rw [if_neg c]
      unfold ab_pl
      rw [if_neg c]
      exact ih (k + 1) _ _ _ _ _ _ _ _ (by omega)
theorem m_profit (h : ab_wf (Yv R) n N) (hab : a ≤ b) (hb : b < 4) {q i : Nat} (hq : q < 4) (hi : i < N) : ∃ (s18' s19' s20' : Int32) (wt' er' : Nat → Int64) (rk' : Nat → Int32) (v' e' : Int64), pm_call 154 [.ref 200, .int (nI q), .int (nI i), .int (nI a), .int (nI b)] (pm_Mw w (ab_S s0 s2 s3 s4 s5 s6 s7 s8 s9 s14 s18 s19 s20) (ab_Lg l10 l21 l22) TT R RD SN wt er rk) = some (some (.int (ab_pl (ab_pc (Yv R) n N a b q i) (ab_pcd (Yv R) n N a b q i) 1000 0)), (pm_Mw w (ab_S 0 s2 s3 s4 s5 s6 s7 s8 s9 s14 s18' s19' s20') (ab_Lg l10 v' e') TT R RD SN wt' er' rk')) := by
  have h8 := h.N8
  obtain ⟨s18', s19', s20', wt', er', rk', v', e', h1⟩ := m_profit_loop (w := w) (TT := TT) (R := R) (RD := RD) (SN := SN) (s0 := 0) (s2 := s2) (s3 := s3) (s4 := s4) (s5 := s5) (s6 := s6) (s7 := s7) (s8 := s8) (s9 := s9) (s14 := s14) (l10 := l10) h hab hb (i := i) hq 1000 0 s18 s19 s20 l21 l22 wt er rk (by omega)
  refine ⟨s18', s19', s20', wt', er', rk', v', e', ?_⟩
  have e1 : ¬ 3 < nI q := by rw [show (3 : Int32) = nI 3 from rfl, nI_ltI (by omega) (by omega)]; omega
  simp only [pe154, z154_0, z154_1, z154_2, z154_5, z154_6, z154_8, z154_11, pm_kv_some, pm_kw_some, pm_k_some, pm_k_void, pm_vc_some, pm_kl_some, pp6_0, pp6_2, pp6_3, pp6_4, pp6_5, pp6_6, pp6_7, pp6_8, pp6_9, pp6_10, pp6_14, pp6_18, pp6_19, pp6_20, pp6_21, pp6_22, mw200, aS0, aS2, aS3, aS4, aS5, aS6, aS7, aS8, aS9, aS14, aS18, aS19, aS20, aL10, aL21, aL22, mu200, q_misRun hab hb]
  rw [if_neg (by decide)]
  simp only [z154_19, z154_20, z154_23, pm_kv_some, pm_kw_some, pm_k_some, pm_k_void, pm_vc_some, pm_kl_some, q_misQuarter]
  rw [if_neg (nI_pos (by omega)), if_neg e1, if_neg (by decide)]
  simp only [z154_26, z154_27, z154_28, z154_31, pm_kv_some, pm_kw_some, pm_k_some, pm_k_void, pm_vc_some, pm_kl_some, mw200, m_isInstrument h]
  rw [if_neg (nI_pos (by omega)), if_pos (nI_lt hi (by omega)), if_neg (by decide)]
  simp only [z154_36, z154_37]
  exact h1
theorem m_profit_bad (h : ab_wf (Yv R) n N) (hab : a ≤ b) (hb : b < 4) {q i : Int32} (hno : ¬ (¬ q < 0 ∧ q < 4 ∧ ¬ i < 0 ∧ i < nI N)) : pm_call 154 [.ref 200, .int q, .int i, .int (nI a), .int (nI b)] (pm_Mw w (ab_S s0 s2 s3 s4 s5 s6 s7 s8 s9 s14 s18 s19 s20) (ab_Lg l10 l21 l22) TT R RD SN wt er rk) = some (some (.int (-1)), (pm_Mw w (ab_S 0 s2 s3 s4 s5 s6 s7 s8 s9 s14 s18 s19 s20) (ab_Lg l10 l21 l22) TT R RD SN wt er rk)) := by
  have fin : pm_ev 154 34 [some (.ref 200), some (.int q), some (.int i), some (.int (nI a)), some (.int (nI b)), none] [] (pm_Mw w (ab_S 0 s2 s3 s4 s5 s6 s7 s8 s9 s14 s18 s19 s20) (ab_Lg l10 l21 l22) TT R RD SN wt er rk) = some (some (.int (-1)), (pm_Mw w (ab_S 0 s2 s3 s4 s5 s6 s7 s8 s9 s14 s18 s19 s20) (ab_Lg l10 l21 l22) TT R RD SN wt er rk)) := by simp only [z154_34, z154_35]
  simp only [pe154, z154_0, z154_1, z154_2, z154_5, z154_6, z154_8, z154_11, pm_kv_some, pm_kw_some, pm_k_some, pm_k_void, pm_vc_some, pm_kl_some, pp6_0, pp6_2, pp6_3, pp6_4, pp6_5, pp6_6, pp6_7, pp6_8, pp6_9, pp6_10, pp6_14, pp6_18, pp6_19, pp6_20, pp6_21, pp6_22, mw200, aS0, aS2, aS3, aS4, aS5, aS6, aS7, aS8, aS9, aS14, aS18, aS19, aS20, aL10, aL21, aL22, mu200, q_misRun hab hb]
  rw [if_neg (by decide)]
  simp only [z154_19, z154_20, z154_23, pm_kv_some, pm_kw_some, pm_k_some, pm_k_void, pm_vc_some, pm_kl_some, q_misQuarter]
  by_cases c1 : q < 0
  · rw [if_pos c1, if_pos rfl]; exact fin
  · rw [if_neg c1]
    by_cases c2 : 3 < q
    · rw [if_pos c2, if_pos rfl]; exact fin
    · rw [if_neg c2, if_neg (by decide)]
      simp only [z154_26, z154_27, z154_28, z154_31, pm_kv_some, pm_kw_some, pm_k_some, pm_k_void, pm_vc_some, pm_kl_some, mw200, m_isInstrument h]
      by_cases c3 : i < 0
      · rw [if_pos c3, if_pos rfl]; exact fin
      · rw [if_neg c3, if_neg (fun c4 => hno ⟨c1, Classical.byContradiction fun z => c2 (pm_3lt.mpr z), c3, c4⟩), if_pos rfl]; exact fin
theorem m_profit0 {x y q v : Int32} (hr : ¬ ab_rok x y) : pm_call 154 [.ref 200, .int q, .int v, .int x, .int y] (pm_Mw w (ab_S s0 s2 s3 s4 s5 s6 s7 s8 s9 s14 s18 s19 s20) (ab_Lg l10 l21 l22) TT R RD SN wt er rk) = some (some (.int 0), (pm_Mw w (ab_S 1 s2 s3 s4 s5 s6 s7 s8 s9 s14 s18 s19 s20) (ab_Lg l10 l21 l22) TT R RD SN wt er rk)) := by
  simp only [pe154, z154_0, z154_1, z154_2, z154_5, z154_6, z154_8, z154_11, pm_kv_some, pm_kw_some, pm_k_some, pm_k_void, pm_vc_some, pm_kl_some, pp6_0, pp6_2, pp6_3, pp6_4, pp6_5, pp6_6, pp6_7, pp6_8, pp6_9, pp6_10, pp6_14, pp6_18, pp6_19, pp6_20, pp6_21, pp6_22, mw200, aS0, aS2, aS3, aS4, aS5, aS6, aS7, aS8, aS9, aS14, aS18, aS19, aS20, aL10, aL21, aL22, mu200, q_misRun0 hr]
  rw [if_pos trivial]
  simp only [z154_14, z154_15, z154_18, pm_kv_some, pm_kw_some, pm_k_some, pm_k_void, pm_vc_some, pm_kl_some, mw200, q_refuse]
/-- a further event -/
theorem m_adds_ {s d u : Int32} (hn : R 9 = nI n) (h20 : n < 20) {S : Nat → Int32} {L : Nat → Int64} : pm_call 157 [.ref 200, .int s, .int d, .int u] (pm_Mw w S L TT R RD SN wt er rk) = some (none, pm_Mw w S L TT (Rv_ev R n s d u) RD SN wt er rk) := by
  have e0 : (10 : Int32) + 3 * nI n = nI (10 + 3 * n) := by
    have := pm_tix n 0
    rw [show nI 0 = (0 : Int32) from rfl, Int32.add_zero] at this; exact this
  have e2 : nI (10 + 3 * n) + 2 = nI (10 + 3 * n + 2) := by rw [show (2 : Int32) = nI 2 from rfl, nI_add]
  have hv : upd (upd (upd R (10 + 3 * n) s) (10 + 3 * n + 1) d) (10 + 3 * n + 2) u 9 = nI n := by rw [pk_un (by omega), pk_un (by omega), pk_un (by omega), hn]
  simp only [pe157, z157_0, z157_2, z157_3, z157_4, z157_7, z157_9, z157_10, z157_11, z157_12, z157_14, z157_15, z157_18, z157_20, z157_21, z157_22, z157_23, z157_26, z157_28, z157_29, z157_30, z157_31, z157_32, z157_33, z157_36, z157_38, z157_39, z157_40, z157_41, z157_42, z157_43, z157_46, z157_48, z157_49, z157_50, z157_51, z157_52, z157_53, pm_kv_some, pm_kw_some, pm_k_some, pm_k_void, pm_vc_some, pm_kl_some, pg6_0, pg6_1, pg6_2, pg6_3, pg6_4, pg6_5, pg6_6, pg6_7, pg6_8, pg6_9, pg6_10, pg6_11, pg6_12, pg6_13, pg6_14, pg6_15, pg6_16, pg6_17, pg6_18, pg6_19, pg6_20, pg6_21, pg6_22, mw200, mw212, pm_ia_in pm_in9, pm_is_in pm_in9, pm_cl9, hn, e0, nI_1, e2, pm_is_in (vp_in_nI (show 10 + 3 * n < 103 by omega) (by omega)), nI_clamp (show 10 + 3 * n < 2 ^ 31 by omega), mu212, pm_is_in (vp_in_nI (show 10 + 3 * n + 1 < 103 by omega) (by omega)), nI_clamp (show 10 + 3 * n + 1 < 2 ^ 31 by omega), pm_is_in (vp_in_nI (show 10 + 3 * n + 2 < 103 by omega) (by omega)), nI_clamp (show 10 + 3 * n + 2 < 2 ^ 31 by omega), hv]
  rfl
theorem m_isFull (h : ab_wf (Yv R) n N) {s : Int32} {S : Nat → Int32} {L : Nat → Int64} : pm_call 156 [.ref 200, .int s] (pm_Mw w S L TT R RD SN wt er rk) = some (some (.int (if n < 20 ∧ (s = 2 → ab_sc (Yv R 4) n 0 0 < 3) then 0 else 1)), pm_Mw w S L TT R RD SN wt er rk) := by
  have hn : R 9 = nI n := h.hn
  have h20 := h.n20
  have hsc := ab_sc_w h
  have hns := h.ns
  simp only [pe156, z156_0, z156_1, z156_4, z156_6, z156_7, z156_9, pm_kv_some, pm_kw_some, pm_k_some, pm_k_void, pm_vc_some, pm_kl_some, pg6_0, pg6_1, pg6_2, pg6_3, pg6_4, pg6_5, pg6_6, pg6_7, pg6_8, pg6_9, pg6_10, pg6_11, pg6_12, pg6_13, pg6_14, pg6_15, pg6_16, pg6_17, pg6_18, pg6_19, pg6_20, pg6_21, pg6_22, mw200, mw212, pm_ia_in pm_in9, pm_cl9, hn]
  by_cases c : nI n = 20
  · have c' : n = 20 := (nI_eq (by omega) (by omega)).mp c
    rw [if_pos c, if_neg (fun z => by omega)]
    simp only [z156_28, z156_29, z156_32, z156_33, pm_zr1]
  · have c' : n < 20 := by
      have : ¬ n = 20 := fun z => c (by rw [z]; rfl)
      omega
    rw [if_neg c]
    simp only [z156_12, z156_13, z156_14]
    by_cases c2 : s = 2
    · rw [if_pos c2]
      simp only [z156_17, z156_18, z156_21, z156_24, z156_25, pm_kv_some, pm_kw_some, pm_k_some, pm_k_void, pm_vc_some, pm_kl_some, pg6_0, pg6_1, pg6_2, pg6_3, pg6_4, pg6_5, pg6_6, pg6_7, pg6_8, pg6_9, pg6_10, pg6_11, pg6_12, pg6_13, pg6_14, pg6_15, pg6_16, pg6_17, pg6_18, pg6_19, pg6_20, pg6_21, pg6_22, mw200, q_splitsOf mw212 hn h20]
      by_cases c3 : ab_sc (Yv R 4) n 0 0 = 3
      · rw [if_pos c3, if_neg (fun z => by have := z.2 c2; rw [c3] at this; exact absurd this (by decide))]
        simp only [z156_28, z156_29, z156_32, z156_33, pm_zr1]
      · rw [if_neg c3, if_pos ⟨c', fun _ => by
          rw [i3_lt, hsc]
          have : ¬ (ab_ns (Yv R 4) n 0 : Int) = 3 := fun z => c3 (i3_eq (by rw [hsc, z]; rfl))
          show (ab_ns (Yv R 4) n 0 : Int) < 3
          omega⟩]
        simp only [z156_32, z156_33, pm_zr0]
    · rw [if_neg c2, if_pos ⟨c', fun z => absurd z c2⟩]
      simp only [z156_32, z156_33, pm_zr0]
theorem m_ifSplit_bad (h : ab_wf (Yv R) n N) (hab : a ≤ b) (hb : b < 4) {v : Int32} (hno : ¬ (¬ v < 2 ∧ ¬ 9 < v ∧ ab_room (Yv R) n 2)) : pm_call 155 [.ref 200, .int v, .int (nI a), .int (nI b)] (pm_Mw w (ab_S s0 s2 s3 s4 s5 s6 s7 s8 s9 s14 s18 s19 s20) (ab_Lg l10 l21 l22) TT R RD SN wt er rk) = some (some (.int (-1000000000)), (pm_Mw w (ab_S 0 s2 s3 s4 s5 s6 s7 s8 s9 s14 s18 s19 s20) (ab_Lg l10 l21 l22) TT R RD SN wt er rk)) := by
  have fin : pm_ev 155 36 [some (.ref 200), some (.int v), some (.int (nI a)), some (.int (nI b)), none] [] (pm_Mw w (ab_S 0 s2 s3 s4 s5 s6 s7 s8 s9 s14 s18 s19 s20) (ab_Lg l10 l21 l22) TT R RD SN wt er rk) = some (some (.int (-1000000000)), (pm_Mw w (ab_S 0 s2 s3 s4 s5 s6 s7 s8 s9 s14 s18 s19 s20) (ab_Lg l10 l21 l22) TT R RD SN wt er rk)) := by simp only [z155_36, z155_39]
  simp only [pe155, z155_0, z155_1, z155_2, z155_5, z155_6, z155_7, z155_10, pm_kv_some, pm_kw_some, pm_k_some, pm_k_void, pm_vc_some, pm_kl_some, pp6_0, pp6_2, pp6_3, pp6_4, pp6_5, pp6_6, pp6_7, pp6_8, pp6_9, pp6_10, pp6_14, pp6_18, pp6_19, pp6_20, pp6_21, pp6_22, mw200, aS0, aS2, aS3, aS4, aS5, aS6, aS7, aS8, aS9, aS14, aS18, aS19, aS20, aL10, aL21, aL22, mu200, q_misRun hab hb]
  rw [if_neg (by decide)]
  simp only [z155_18, z155_19, z155_20, z155_22, z155_25, pm_kv_some, pm_kw_some, pm_k_some, pm_k_void, pm_vc_some, pm_kl_some, q_isIn]
  by_cases c1 : v < 2
  · rw [if_pos c1, if_pos rfl]; exact fin
  · rw [if_neg c1]
    by_cases c2 : 9 < v
    · rw [if_pos c2, if_pos rfl]; exact fin
    · rw [if_neg c2, if_neg (by decide)]
      simp only [z155_28, z155_29, z155_30, z155_33, pm_kv_some, pm_kw_some, pm_k_some, pm_k_void, pm_vc_some, pm_kl_some, mw200, m_isFull h]
      rw [if_neg (show ¬ (n < 20 ∧ (True → ab_sc (Yv R 4) n 0 0 < 3)) from fun z => hno ⟨c1, c2, z.1, fun _ => z.2 trivial⟩), if_neg (by decide)]
      exact fin
theorem m_ifSplit (h : ab_wf (Yv R) n N) (hab : a ≤ b) (hb : b < 4) {v : Int32} (e1 : ¬ v < 2) (e2 : ¬ 9 < v) (hr : ab_room (Yv R) n 2) : ∃ (s18' s19' s20' : Int32) (wt' er' : Nat → Int64) (rk' : Nat → Int32) (v' e' : Int64), pm_call 155 [.ref 200, .int v, .int (nI a), .int (nI b)] (pm_Mw w (ab_S s0 s2 s3 s4 s5 s6 s7 s8 s9 s14 s18 s19 s20) (ab_Lg l10 l21 l22) TT R RD SN wt er rk) = some (some (.int (ab_dil (ab_ev (Yv R) n 2 (ab_ld (Yv R) n) v) (n + 1) N a b (-1))), (pm_Mw w (ab_S 0 s2 s3 s4 s5 s6 s7 s8 s9 s14 s18' s19' s20') (ab_Lg l10 v' e') TT (upd (Rv_ev R n 2 (ab_ld (Yv R) n) v) 9 (nI n)) RD SN wt' er' rk')) := by
  have hn : R 9 = nI n := h.hn
  have h20 := h.n20
  have h8 := h.N8
  have ht : ab_tok (Yv R) n 2 (ab_ld (Yv R) n) v := by
    refine ⟨by decide, by decide, Int32.lt_irrefl, ?_, ?_, ?_⟩
    · have := (ab_ld_b h).2.1
      rw [i3_lt]
      show ¬ (359 : Int) < _
      omega
    · rw [if_pos rfl]; exact e1
    · unfold ab_mo; rw [if_pos rfl]; exact e2
  have le := Yv_ev (R := R) (n := n) (N := N) (s := 2) (d := ab_ld (Yv R) n) (u := v) hr.1 h8
  have hw : ab_wf (Yv (Rv_ev R n 2 (ab_ld (Yv R) n) v)) (n + 1) N := (h.event ht hr).congr le.symm
  obtain ⟨s18', s19', s20', wt', er', rk', v', e', h1⟩ := m_dilx (w := w) (TT := TT) (R := Rv_ev R n 2 (ab_ld (Yv R) n) v) (RD := RD) (SN := SN) (wt := wt) (er := er) (rk := rk) (s0 := 0) (s2 := s2) (s3 := s3) (s4 := s4) (s5 := s5) (s6 := s6) (s7 := s7) (s8 := s8) (s9 := s9) (s14 := s14) (s18 := s18) (s19 := s19) (s20 := s20) (l10 := l10) (l21 := l21) (l22 := l22) (bt := -1) hw hab hb
  rw [le.dil hab hb] at h1
  have h9 : Rv_ev R n 2 (ab_ld (Yv R) n) v 9 = nI (n + 1) := hw.hn
  refine ⟨s18', s19', s20', wt', er', rk', v', e', ?_⟩
  simp only [pe155, z155_0, z155_1, z155_2, z155_5, z155_6, z155_7, z155_10, pm_kv_some, pm_kw_some, pm_k_some, pm_k_void, pm_vc_some, pm_kl_some, pp6_0, pp6_2, pp6_3, pp6_4, pp6_5, pp6_6, pp6_7, pp6_8, pp6_9, pp6_10, pp6_14, pp6_18, pp6_19, pp6_20, pp6_21, pp6_22, mw200, aS0, aS2, aS3, aS4, aS5, aS6, aS7, aS8, aS9, aS14, aS18, aS19, aS20, aL10, aL21, aL22, mu200, q_misRun hab hb]
  rw [if_neg (by decide)]
  simp only [z155_18, z155_19, z155_20, z155_22, z155_25, pm_kv_some, pm_kw_some, pm_k_some, pm_k_void, pm_vc_some, pm_kl_some, q_isIn]
  rw [if_neg e1, if_neg e2, if_neg (by decide)]
  simp only [z155_28, z155_29, z155_30, z155_33, pm_kv_some, pm_kw_some, pm_k_some, pm_k_void, pm_vc_some, pm_kl_some, mw200, m_isFull h]
  rw [if_pos (show n < 20 ∧ (True → ab_sc (Yv R 4) n 0 0 < 3) from ⟨hr.1, fun _ => hr.2 rfl⟩), if_pos rfl]
  simp only [z155_40, z155_41, z155_42, z155_43, z155_46, z155_49, z155_50, pm_kv_some, pm_kw_some, pm_k_some, pm_k_void, pm_vc_some, pm_kl_some, pg6_0, pg6_1, pg6_2, pg6_3, pg6_4, pg6_5, pg6_6, pg6_7, pg6_8, pg6_9, pg6_10, pg6_11, pg6_12, pg6_13, pg6_14, pg6_15, pg6_16, pg6_17, pg6_18, pg6_19, pg6_20, pg6_21, pg6_22, mw200, q_lastDay mw212 hn h20]
  have had := m_adds_ (w := w) (TT := TT) (R := R) (RD := RD) (SN := SN) (wt := wt) (er := er) (rk := rk) (s := 2) (d := ab_ld (Yv R) n) (u := v) (S := ab_S 0 s2 s3 s4 s5 s6 s7 s8 s9 s14 s18 s19 s20) (L := ab_Lg l10 l21 l22) hn hr.1
  rw [show (if n = 0 then (0 : Int32) else Yv R 5 (n - 1)) = ab_ld (Yv R) n from rfl, had]
  simp only [z155_53, z155_54, z155_55, z155_56, z155_57, z155_60, z155_62, z155_63, z155_66, z155_68, z155_69, z155_70, z155_71, z155_72, z155_73, z155_75, pm_kv_some, pm_kw_some, pm_k_some, pm_k_void, pm_vc_some, pm_kl_some, pg6_0, pg6_1, pg6_2, pg6_3, pg6_4, pg6_5, pg6_6, pg6_7, pg6_8, pg6_9, pg6_10, pg6_11, pg6_12, pg6_13, pg6_14, pg6_15, pg6_16, pg6_17, pg6_18, pg6_19, pg6_20, pg6_21, pg6_22, mw200, mw212, h1, pm_ia_in pm_in9, pm_is_in pm_in9, pm_cl9, h9, nI_pred, mu212]
theorem m_ifSplit0 {x y v : Int32} (hr : ¬ ab_rok x y) : pm_call 155 [.ref 200, .int v, .int x, .int y] (pm_Mw w (ab_S s0 s2 s3 s4 s5 s6 s7 s8 s9 s14 s18 s19 s20) (ab_Lg l10 l21 l22) TT R RD SN wt er rk) = some (some (.int 0), (pm_Mw w (ab_S 1 s2 s3 s4 s5 s6 s7 s8 s9 s14 s18 s19 s20) (ab_Lg l10 l21 l22) TT R RD SN wt er rk)) := by
  simp only [pe155, z155_0, z155_1, z155_2, z155_5, z155_6, z155_7, z155_10, pm_kv_some, pm_kw_some, pm_k_some, pm_k_void, pm_vc_some, pm_kl_some, pp6_0, pp6_2, pp6_3, pp6_4, pp6_5, pp6_6, pp6_7, pp6_8, pp6_9, pp6_10, pp6_14, pp6_18, pp6_19, pp6_20, pp6_21, pp6_22, mw200, aS0, aS2, aS3, aS4, aS5, aS6, aS7, aS8, aS9, aS14, aS18, aS19, aS20, aL10, aL21, aL22, mu200, q_misRun0 hr]
  rw [if_pos trivial]
  simp only [z155_13, z155_14, z155_17, pm_kv_some, pm_kw_some, pm_k_some, pm_k_void, pm_vc_some, pm_kl_some, mw200, q_refuse]
end PMS
