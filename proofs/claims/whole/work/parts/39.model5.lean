/-! THE MODEL, part 5: what is asked of runs -/
theorem pm_m1lt {N : Nat} (h : N < 2 ^ 31) {i : Int32} : (nI N - 1 < i) ↔ ¬ i < nI N := by
  have t : (nI N).toInt = N := nI_toInt h
  have t1 : (1 : Int32).toInt = 1 := rfl
  rw [i3_lt, i3_lt, i3_sub (by rw [t, t1]; omega) (by rw [t, t1]; omega), t, t1]
  omega
theorem pm_3lt {q : Int32} : (3 < q) ↔ ¬ q < 4 := by
  rw [i3_lt, i3_lt]
  show (3 : Int) < q.toInt ↔ ¬ q.toInt < 4
  omega
section PMR
variable {w : pm_H} {TT R RD SN : Nat → Int32} {wt er : Nat → Int64} {rk : Nat → Int32} {s0 s2 s3 s4 s5 s6 s7 s8 s9 s14 s18 s19 s20 : Int32} {l10 l21 l22 : Int64} {n N a b : Nat} {bt : Int32}
theorem m_event (h : ab_wf (Yv R) n N) {k v : Int32} : pm_call 127 [.ref 200, .int k, .int v] (pm_Mw w (ab_S s0 s2 s3 s4 s5 s6 s7 s8 s9 s14 s18 s19 s20) (ab_Lg l10 l21 l22) TT R RD SN wt er rk) = some (some (.int (if k < 0 then -1 else if k < nI n then (if v = 0 then Yv R 4 k.toNatClampNeg else if v = 1 then Yv R 5 k.toNatClampNeg else if v = 2 then Yv R 6 k.toNatClampNeg else -1) else -1)), (pm_Mw w (ab_S 0 s2 s3 s4 s5 s6 s7 s8 s9 s14 s18 s19 s20) (ab_Lg l10 l21 l22) TT R RD SN wt er rk)) := by
  have hn : R 9 = nI n := h.hn
  have h20 := h.n20
  have fin : pm_ev 127 43 [some (.ref 200), some (.int k), some (.int v)] [] (pm_Mw w (ab_S 0 s2 s3 s4 s5 s6 s7 s8 s9 s14 s18 s19 s20) (ab_Lg l10 l21 l22) TT R RD SN wt er rk) = some (some (.int (-1)), (pm_Mw w (ab_S 0 s2 s3 s4 s5 s6 s7 s8 s9 s14 s18 s19 s20) (ab_Lg l10 l21 l22) TT R RD SN wt er rk)) := by simp only [z127_43, z127_44]
  simp only [pe127, z127_0, z127_1, z127_2, z127_5, z127_6, z127_7, z127_8, z127_11, z127_13, z127_14, z127_15, z127_16, z127_19, pm_kv_some, pm_kw_some, pm_k_some, pm_k_void, pm_vc_some, pm_kl_some, pg6_0, pg6_1, pg6_2, pg6_3, pg6_4, pg6_5, pg6_6, pg6_7, pg6_8, pg6_9, pg6_10, pg6_11, pg6_12, pg6_13, pg6_14, pg6_15, pg6_16, pg6_17, pg6_18, pg6_19, pg6_20, pg6_21, pg6_22, pp6_0, pp6_2, pp6_3, pp6_4, pp6_5, pp6_6, pp6_7, pp6_8, pp6_9, pp6_10, pp6_14, pp6_18, pp6_19, pp6_20, pp6_21, pp6_22, mw200, mw212, aS0, aS2, aS3, aS4, aS5, aS6, aS7, aS8, aS9, aS14, aS18, aS19, aS20, aL10, aL21, aL22, mu200, pm_ia_in pm_in9, pm_cl9, hn, q_isIn]
  by_cases c1 : k < 0
  · rw [if_pos c1, if_pos rfl, if_pos c1]; exact fin
  · rw [if_neg c1, if_neg c1]
    by_cases c2 : k < nI n
    · rw [if_neg (fun z => (pm_m1lt (by omega)).mp z c2), if_neg (by decide), if_pos c2]
      obtain ⟨j, hj, e⟩ := pm_ixN c1 c2 (by omega)
      subst e
      rw [nI_clamp (show j < 2 ^ 31 by omega)]
      simp only [z127_22, z127_23, z127_24, z127_25, z127_28, pm_kv_some, pm_kw_some, pm_k_some, pm_k_void, pm_vc_some, pm_kl_some, q_isIn]
      by_cases v0 : v = 0
      · subst v0
        rw [if_neg (by decide), if_pos rfl]
        simp only [z127_31, z127_32, z127_35, z127_36, z127_37, z127_40, z127_44, pm_kv_some, pm_kw_some, pm_k_some, pm_k_void, pm_vc_some, pm_kl_some, pg6_0, pg6_1, pg6_2, pg6_3, pg6_4, pg6_5, pg6_6, pg6_7, pg6_8, pg6_9, pg6_10, pg6_11, pg6_12, pg6_13, pg6_14, pg6_15, pg6_16, pg6_17, pg6_18, pg6_19, pg6_20, pg6_21, pg6_22, mw200, q_told0 mw212 (show j ≤ 20 by omega)]
      · rw [if_neg v0]
        by_cases v1 : v = 1
        · subst v1
          rw [if_neg (by decide), if_pos rfl]
          simp only [z127_31, z127_32, z127_35, z127_36, z127_37, z127_40, z127_44, pm_kv_some, pm_kw_some, pm_k_some, pm_k_void, pm_vc_some, pm_kl_some, pg6_0, pg6_1, pg6_2, pg6_3, pg6_4, pg6_5, pg6_6, pg6_7, pg6_8, pg6_9, pg6_10, pg6_11, pg6_12, pg6_13, pg6_14, pg6_15, pg6_16, pg6_17, pg6_18, pg6_19, pg6_20, pg6_21, pg6_22, mw200, q_told1 mw212 (show j ≤ 20 by omega)]
        · rw [if_neg v1]
          by_cases v2 : v = 2
          · subst v2
            rw [if_neg (by decide), if_pos rfl]
            simp only [z127_31, z127_32, z127_35, z127_36, z127_37, z127_40, z127_44, pm_kv_some, pm_kw_some, pm_k_some, pm_k_void, pm_vc_some, pm_kl_some, pg6_0, pg6_1, pg6_2, pg6_3, pg6_4, pg6_5, pg6_6, pg6_7, pg6_8, pg6_9, pg6_10, pg6_11, pg6_12, pg6_13, pg6_14, pg6_15, pg6_16, pg6_17, pg6_18, pg6_19, pg6_20, pg6_21, pg6_22, mw200, q_told2 mw212 (show j ≤ 20 by omega)]
          · rw [if_neg v2]
            by_cases c3 : v < 0
            · rw [if_pos c3, if_pos rfl]; exact fin
            · rw [if_neg c3]
              have c4 : 2 < v := by
                rw [i3_lt] at c3 ⊢
                have a1 : ¬ v.toInt < (0 : Int) := c3
                have a2 : ¬ v.toInt = 0 := fun z => v0 (i3_eq z)
                have a3 : ¬ v.toInt = 1 := fun z => v1 (i3_eq z)
                have a4 : ¬ v.toInt = 2 := fun z => v2 (i3_eq z)
                show (2 : Int) < v.toInt
                omega
              rw [if_pos c4, if_pos rfl]; exact fin
    · rw [if_pos ((pm_m1lt (by omega)).mpr c2), if_pos rfl, if_neg c2]; exact fin
theorem m_instrument (h : ab_wf (Yv R) n N) {i v : Int32} : pm_call 128 [.ref 200, .int i, .int v] (pm_Mw w (ab_S s0 s2 s3 s4 s5 s6 s7 s8 s9 s14 s18 s19 s20) (ab_Lg l10 l21 l22) TT R RD SN wt er rk) = some (some (.int (if i < 0 then -1 else if i < nI N then (if v = 0 then Yv R 8 i.toNatClampNeg else if v = 1 then Yv R 9 i.toNatClampNeg else if v = 2 then Yv R 10 i.toNatClampNeg else if v = 3 then Yv R 11 i.toNatClampNeg else if v = 4 then ab_old (Yv R) n i.toNatClampNeg else -1) else -1)), (pm_Mw w (ab_S 0 s2 s3 s4 s5 s6 s7 s8 s9 s14 s18 s19 s20) (ab_Lg l10 l21 l22) TT R RD SN wt er rk)) := by
  have hn : R 9 = nI n := h.hn
  have h20 := h.n20
  have h8 := h.N8
  have fin : pm_ev 128 22 [some (.ref 200), some (.int i), some (.int v)] [] (pm_Mw w (ab_S 0 s2 s3 s4 s5 s6 s7 s8 s9 s14 s18 s19 s20) (ab_Lg l10 l21 l22) TT R RD SN wt er rk) = some (some (.int (-1)), (pm_Mw w (ab_S 0 s2 s3 s4 s5 s6 s7 s8 s9 s14 s18 s19 s20) (ab_Lg l10 l21 l22) TT R RD SN wt er rk)) := by simp only [z128_22, z128_23, z128_45]
  simp only [pe128, z128_0, z128_1, z128_2, z128_5, z128_6, z128_7, z128_10, pm_kv_some, pm_kw_some, pm_k_some, pm_k_void, pm_vc_some, pm_kl_some, pp6_0, pp6_2, pp6_3, pp6_4, pp6_5, pp6_6, pp6_7, pp6_8, pp6_9, pp6_10, pp6_14, pp6_18, pp6_19, pp6_20, pp6_21, pp6_22, mw200, aS0, aS2, aS3, aS4, aS5, aS6, aS7, aS8, aS9, aS14, aS18, aS19, aS20, aL10, aL21, aL22, mu200, m_isInstrument h]
  by_cases c1 : i < 0
  · rw [if_pos c1, if_pos rfl, if_pos c1]; exact fin
  · rw [if_neg c1, if_neg c1]
    by_cases c2 : i < nI N
    · rw [if_pos c2, if_neg (by decide), if_pos c2]
      obtain ⟨j, hj, e⟩ := pm_ixN c1 c2 (by omega)
      subst e
      rw [nI_clamp (show j < 2 ^ 31 by omega)]
      simp only [z128_13, z128_14, z128_15, z128_16, z128_19, pm_kv_some, pm_kw_some, pm_k_some, pm_k_void, pm_vc_some, pm_kl_some, q_isIn]
      by_cases v0 : v = 0
      · subst v0
        rw [if_neg (by decide), if_pos rfl]
        simp only [z128_26, z128_27, z128_28]
        rw [if_neg (by decide)]
        simp only [z128_39, z128_40, z128_41, z128_42, z128_45, pm_kv_some, pm_kw_some, pm_k_some, pm_k_void, pm_vc_some, pm_kl_some, mw200, q_its0 mwm mw212 (show j < 8 by omega)]
      · rw [if_neg v0]
        by_cases v1 : v = 1
        · subst v1
          rw [if_neg (by decide), if_pos rfl]
          simp only [z128_26, z128_27, z128_28]
          rw [if_neg (by decide)]
          simp only [z128_39, z128_40, z128_41, z128_42, z128_45, pm_kv_some, pm_kw_some, pm_k_some, pm_k_void, pm_vc_some, pm_kl_some, mw200, q_its1 mwm mw212 (show j < 8 by omega)]
        · rw [if_neg v1]
          by_cases v2 : v = 2
          · subst v2
            rw [if_neg (by decide), if_pos rfl]
            simp only [z128_26, z128_27, z128_28]
            rw [if_neg (by decide)]
            simp only [z128_39, z128_40, z128_41, z128_42, z128_45, pm_kv_some, pm_kw_some, pm_k_some, pm_k_void, pm_vc_some, pm_kl_some, mw200, q_its2 mwm mw212 (show j < 8 by omega)]
          · rw [if_neg v2]
            by_cases v3 : v = 3
            · subst v3
              rw [if_neg (by decide), if_pos rfl]
              simp only [z128_26, z128_27, z128_28]
              rw [if_neg (by decide)]
              simp only [z128_39, z128_40, z128_41, z128_42, z128_45, pm_kv_some, pm_kw_some, pm_k_some, pm_k_void, pm_vc_some, pm_kl_some, mw200, q_its3 mwm mw212 (show j < 8 by omega)]
            · rw [if_neg v3]
              by_cases v4 : v = 4
              · subst v4
                rw [if_neg (by decide), if_pos rfl]
                simp only [z128_26, z128_27, z128_28]
                rw [if_pos trivial]
                simp only [z128_31, z128_32, z128_33, z128_36, z128_45, pm_kv_some, pm_kw_some, pm_k_some, pm_k_void, pm_vc_some, pm_kl_some, mw200, q_old mwm mw212 hn h20 (show j < 8 by omega) (mf_hD h j hj) (mf_hd h)]
              · rw [if_neg v4]
                by_cases c3 : v < 0
                · rw [if_pos c3, if_pos rfl]; exact fin
                · rw [if_neg c3]
                  have c4 : 4 < v := by
                    rw [i3_lt] at c3 ⊢
                    have a1 : ¬ v.toInt < (0 : Int) := c3
                    have a2 : ¬ v.toInt = 0 := fun z => v0 (i3_eq z)
                    have a3 : ¬ v.toInt = 1 := fun z => v1 (i3_eq z)
                    have a4 : ¬ v.toInt = 2 := fun z => v2 (i3_eq z)
                    have a5 : ¬ v.toInt = 3 := fun z => v3 (i3_eq z)
                    have a6 : ¬ v.toInt = 4 := fun z => v4 (i3_eq z)
                    show (4 : Int) < v.toInt
                    omega
                  rw [if_pos c4, if_pos rfl]; exact fin
    · rw [if_neg c2, if_pos rfl, if_neg c2]; exact fin
theorem m_weight (h : ab_wf (Yv R) n N) (hab : a ≤ b) (hb : b < 4) : pm_call 132 [.ref 200, .int (nI a), .int (nI b)] (pm_Mw w (ab_S s0 s2 s3 s4 s5 s6 s7 s8 s9 s14 s18 s19 s20) (ab_Lg l10 l21 l22) TT R RD SN wt er rk) = some (some (.long (ab_V (Yv R) n a b)), (pm_Mw w (ab_S 0 s2 s3 s4 s5 s6 s7 s8 s9 s14 s18 s19 s20) (ab_Lg l10 l21 l22) TT R RD SN wt er rk)) := by
  simp only [pe132, z132_0, z132_1, z132_2, z132_5, z132_6, z132_7, z132_10, pm_kv_some, pm_kw_some, pm_k_some, pm_k_void, pm_vc_some, pm_kl_some, pp6_0, pp6_2, pp6_3, pp6_4, pp6_5, pp6_6, pp6_7, pp6_8, pp6_9, pp6_10, pp6_14, pp6_18, pp6_19, pp6_20, pp6_21, pp6_22, mw200, aS0, aS2, aS3, aS4, aS5, aS6, aS7, aS8, aS9, aS14, aS18, aS19, aS20, aL10, aL21, aL22, mu200, q_misRun hab hb]
  rw [if_neg (by decide)]
  simp only [z132_13, z132_14, z132_15, z132_16, z132_19, z132_27, pm_kv_some, pm_kw_some, pm_k_some, pm_k_void, pm_vc_some, pm_kl_some, mw200, q_mweightOf mwm mw212 h.hn h.n20 (mf_hd h) hab hb]
  rw [← ab_V_M h hab hb]; rfl
theorem m_weight0 {x y : Int32} (hr : ¬ ab_rok x y) : pm_call 132 [.ref 200, .int x, .int y] (pm_Mw w (ab_S s0 s2 s3 s4 s5 s6 s7 s8 s9 s14 s18 s19 s20) (ab_Lg l10 l21 l22) TT R RD SN wt er rk) = some (some (.long 0), (pm_Mw w (ab_S 1 s2 s3 s4 s5 s6 s7 s8 s9 s14 s18 s19 s20) (ab_Lg l10 l21 l22) TT R RD SN wt er rk)) := by
  simp only [pe132, z132_0, z132_1, z132_2, z132_5, z132_6, z132_7, z132_10, pm_kv_some, pm_kw_some, pm_k_some, pm_k_void, pm_vc_some, pm_kl_some, pp6_0, pp6_2, pp6_3, pp6_4, pp6_5, pp6_6, pp6_7, pp6_8, pp6_9, pp6_10, pp6_14, pp6_18, pp6_19, pp6_20, pp6_21, pp6_22, mw200, aS0, aS2, aS3, aS4, aS5, aS6, aS7, aS8, aS9, aS14, aS18, aS19, aS20, aL10, aL21, aL22, mu200, q_misRun0 hr]
  rw [if_pos trivial]
  simp only [z132_22, z132_23, z132_26, z132_27, pm_kv_some, pm_kw_some, pm_k_some, pm_k_void, pm_vc_some, pm_kl_some, mw200, q_refuse]
  rfl
theorem m_adds (h : ab_wf (Yv R) n N) (hab : a ≤ b) (hb : b < 4) {i : Nat} (hi : i < N) {g : Int32} : pm_call 135 [.ref 200, .int (nI i), .int (nI a), .int (nI b), .int g] (pm_Mw w (ab_S s0 s2 s3 s4 s5 s6 s7 s8 s9 s14 s18 s19 s20) (ab_Lg l10 l21 l22) TT R RD SN wt er rk) = some (some (.long (if g = 0 then ab_awM (Yv R) n i a b else ab_ae (Yv R) i a b)), (pm_Mw w (ab_S 0 s2 s3 s4 s5 s6 s7 s8 s9 s14 s18 s19 s20) (ab_Lg l10 l21 l22) TT R RD SN wt er rk)) := by
  have h8 := h.N8
  simp only [pe135, z135_0, z135_1, z135_2, z135_5, z135_6, z135_7, z135_10, pm_kv_some, pm_kw_some, pm_k_some, pm_k_void, pm_vc_some, pm_kl_some, pp6_0, pp6_2, pp6_3, pp6_4, pp6_5, pp6_6, pp6_7, pp6_8, pp6_9, pp6_10, pp6_14, pp6_18, pp6_19, pp6_20, pp6_21, pp6_22, mw200, aS0, aS2, aS3, aS4, aS5, aS6, aS7, aS8, aS9, aS14, aS18, aS19, aS20, aL10, aL21, aL22, mu200, q_misRun hab hb]
  rw [if_neg (by decide)]
  simp only [z135_13, z135_14, z135_15, z135_18, pm_kv_some, pm_kw_some, pm_k_some, pm_k_void, pm_vc_some, pm_kl_some, mw200, m_isInstrument h]
  rw [if_neg (nI_pos (by omega)), if_pos (nI_lt hi (by omega)), if_neg (by decide)]
  simp only [z135_27, z135_29]
  by_cases c : g = 0
  · rw [if_pos c, if_pos c]
    simp only [z135_42, z135_43, z135_44, z135_45, z135_46, z135_49, pm_kv_some, pm_kw_some, pm_k_some, pm_k_void, pm_vc_some, pm_kl_some, mw200, q_addsWeight mwm mw212 h.hn h.n20 (show i < 8 by omega) hab hb (mf_hD h i hi) (mf_hd h) (fun q hq => mf_hp h i q hi hq)]
  · rw [if_neg c, if_neg c]
    simp only [z135_32, z135_33, z135_34, z135_35, z135_36, z135_39, z135_49, pm_kv_some, pm_kw_some, pm_k_some, pm_k_void, pm_vc_some, pm_kl_some, mw200, q_addsEarnings mwm mw212 (show i < 8 by omega)]
theorem m_adds0 (h : ab_wf (Yv R) n N) {i x y g : Int32} (hr : ¬ (ab_rok x y ∧ ¬ i < 0 ∧ i < nI N)) : pm_call 135 [.ref 200, .int i, .int x, .int y, .int g] (pm_Mw w (ab_S s0 s2 s3 s4 s5 s6 s7 s8 s9 s14 s18 s19 s20) (ab_Lg l10 l21 l22) TT R RD SN wt er rk) = some (some (.long 0), (pm_Mw w (ab_S 1 s2 s3 s4 s5 s6 s7 s8 s9 s14 s18 s19 s20) (ab_Lg l10 l21 l22) TT R RD SN wt er rk)) := by
  have fin : pm_ev 135 21 [some (.ref 200), some (.int i), some (.int x), some (.int y), some (.int g)] [] (pm_Mw w (ab_S 0 s2 s3 s4 s5 s6 s7 s8 s9 s14 s18 s19 s20) (ab_Lg l10 l21 l22) TT R RD SN wt er rk) = some (some (.long 0), (pm_Mw w (ab_S 1 s2 s3 s4 s5 s6 s7 s8 s9 s14 s18 s19 s20) (ab_Lg l10 l21 l22) TT R RD SN wt er rk)) := by
    simp only [z135_21, z135_22, z135_25, z135_26, pm_kv_some, pm_kw_some, pm_k_some, pm_k_void, pm_vc_some, pm_kl_some, mw200, q_refuse]; rfl
  by_cases c : ab_rok x y
  · obtain ⟨a, b, ea, eb, hab, hb⟩ := ab_rok_n c
    subst ea; subst eb
    simp only [pe135, z135_0, z135_1, z135_2, z135_5, z135_6, z135_7, z135_10, pm_kv_some, pm_kw_some, pm_k_some, pm_k_void, pm_vc_some, pm_kl_some, pp6_0, pp6_2, pp6_3, pp6_4, pp6_5, pp6_6, pp6_7, pp6_8, pp6_9, pp6_10, pp6_14, pp6_18, pp6_19, pp6_20, pp6_21, pp6_22, mw200, aS0, aS2, aS3, aS4, aS5, aS6, aS7, aS8, aS9, aS14, aS18, aS19, aS20, aL10, aL21, aL22, mu200, q_misRun hab hb]
    rw [if_neg (by decide)]
    simp only [z135_13, z135_14, z135_15, z135_18, pm_kv_some, pm_kw_some, pm_k_some, pm_k_void, pm_vc_some, pm_kl_some, mw200, m_isInstrument h]
    by_cases c1 : i < 0
    · rw [if_pos c1, if_pos rfl]; exact fin
    · rw [if_neg c1, if_neg (fun z => hr ⟨c, c1, z⟩), if_pos rfl]; exact fin
  · simp only [pe135, z135_0, z135_1, z135_2, z135_5, z135_6, z135_7, z135_10, pm_kv_some, pm_kw_some, pm_k_some, pm_k_void, pm_vc_some, pm_kl_some, pp6_0, pp6_2, pp6_3, pp6_4, pp6_5, pp6_6, pp6_7, pp6_8, pp6_9, pp6_10, pp6_14, pp6_18, pp6_19, pp6_20, pp6_21, pp6_22, mw200, aS0, aS2, aS3, aS4, aS5, aS6, aS7, aS8, aS9, aS14, aS18, aS19, aS20, aL10, aL21, aL22, mu200, q_misRun0 c]
    rw [if_pos trivial]; exact fin
theorem m_run0 {x y v : Int32} (hr : ¬ (ab_rok x y ∧ ¬ v < 0 ∧ ¬ 5 < v)) : pm_call 142 [.ref 200, .int x, .int y, .int v] (pm_Mw w (ab_S s0 s2 s3 s4 s5 s6 s7 s8 s9 s14 s18 s19 s20) (ab_Lg l10 l21 l22) TT R RD SN wt er rk) = some (some (.int 0), (pm_Mw w (ab_S 1 s2 s3 s4 s5 s6 s7 s8 s9 s14 s18 s19 s20) (ab_Lg l10 l21 l22) TT R RD SN wt er rk)) := by
  have fin : pm_ev 142 22 [some (.ref 200), some (.int x), some (.int y), some (.int v), none] [] (pm_Mw w (ab_S 0 s2 s3 s4 s5 s6 s7 s8 s9 s14 s18 s19 s20) (ab_Lg l10 l21 l22) TT R RD SN wt er rk) = some (some (.int 0), (pm_Mw w (ab_S 1 s2 s3 s4 s5 s6 s7 s8 s9 s14 s18 s19 s20) (ab_Lg l10 l21 l22) TT R RD SN wt er rk)) := by
    simp only [z142_22, z142_23, z142_26, pm_kv_some, pm_kw_some, pm_k_some, pm_k_void, pm_vc_some, pm_kl_some, mw200, q_refuse]
  by_cases c : ab_rok x y
  · obtain ⟨a, b, ea, eb, hab, hb⟩ := ab_rok_n c
    subst ea; subst eb
    simp only [pe142, z142_0, z142_1, z142_2, z142_5, z142_6, z142_7, z142_10, pm_kv_some, pm_kw_some, pm_k_some, pm_k_void, pm_vc_some, pm_kl_some, pp6_0, pp6_2, pp6_3, pp6_4, pp6_5, pp6_6, pp6_7, pp6_8, pp6_9, pp6_10, pp6_14, pp6_18, pp6_19, pp6_20, pp6_21, pp6_22, mw200, aS0, aS2, aS3, aS4, aS5, aS6, aS7, aS8, aS9, aS14, aS18, aS19, aS20, aL10, aL21, aL22, mu200, q_misRun hab hb]
    rw [if_neg (by decide)]
    simp only [z142_13, z142_14, z142_15, z142_16, z142_19, pm_kv_some, pm_kw_some, pm_k_some, pm_k_void, pm_vc_some, pm_kl_some, q_isIn]
    by_cases c1 : v < 0
    · rw [if_pos c1, if_pos rfl]; exact fin
    · rw [if_neg c1, if_pos (Classical.byContradiction fun z => hr ⟨c, c1, z⟩), if_pos rfl]; exact fin
  · simp only [pe142, z142_0, z142_1, z142_2, z142_5, z142_6, z142_7, z142_10, pm_kv_some, pm_kw_some, pm_k_some, pm_k_void, pm_vc_some, pm_kl_some, pp6_0, pp6_2, pp6_3, pp6_4, pp6_5, pp6_6, pp6_7, pp6_8, pp6_9, pp6_10, pp6_14, pp6_18, pp6_19, pp6_20, pp6_21, pp6_22, mw200, aS0, aS2, aS3, aS4, aS5, aS6, aS7, aS8, aS9, aS14, aS18, aS19, aS20, aL10, aL21, aL22, mu200, q_misRun0 c]
    rw [if_pos trivial]; exact fin
theorem m_run (h : ab_wf (Yv R) n N) (hab : a ≤ b) (hb : b < 4) {v : Int32} (hv0 : ¬ v < 0) (hv5 : ¬ 5 < v) : ∃ (s18' s19' s20' : Int32) (wt' er' : Nat → Int64) (rk' : Nat → Int32) (v' e' : Int64), pm_call 142 [.ref 200, .int (nI a), .int (nI b), .int v] (pm_Mw w (ab_S s0 s2 s3 s4 s5 s6 s7 s8 s9 s14 s18 s19 s20) (ab_Lg l10 l21 l22) TT R RD SN wt er rk) = some (some (.int (ab_run (Yv R) n N a b v)), (pm_Mw w (ab_S 0 s2 s3 s4 s5 s6 s7 s8 s9 s14 s18' s19' s20') (ab_Lg l10 v' e') TT R RD SN wt' er' rk')) := by
  obtain ⟨wt', er', rk', v', e', h1, -⟩ := m_dil (w := w) (TT := TT) (R := R) (RD := RD) (SN := SN) (wt := wt) (er := er) (rk := rk) (s0 := 0) (s2 := s2) (s3 := s3) (s4 := s4) (s5 := s5) (s6 := s6) (s7 := s7) (s8 := s8) (s9 := s9) (s14 := s14) (s18 := s18) (s19 := s19) (s20 := s20) (l10 := l10) (l21 := l21) (l22 := l22) (bt := -1) h hab hb
  refine ⟨(nI (ab_L (Yv R) n N a b (-1) (ab_e (Yv R) 0 b)).length), (ab_T (Yv R) n N a b (-1) (ab_e (Yv R) a b) (ab_e (Yv R) 0 b)).1, (ab_T (Yv R) n N a b (-1) (ab_e (Yv R) a b) (ab_e (Yv R) 0 b)).2.1, wt', er', rk', v', e', ?_⟩
  obtain ⟨ee, ee1, ee2⟩ := ab_e_M h hb hab
  have hV := ab_V_b h hab hb
  have hV0 : ¬ ab_V (Yv R) n a b = 0 := fun z => by rw [z] at hV; exact absurd hV.1 (by decide)
  have ewo : ∀ (S : Nat → Int32) (L : Nat → Int64), pm_call 134 [.ref 200, .int (nI a), .int (nI b)] (pm_Mw w S L TT R RD SN wt' er' rk') = some (some (.long (ab_V (Yv R) n a b)), pm_Mw w S L TT R RD SN wt' er' rk') := fun _ _ => by
    rw [← ab_V_M h hab hb]; exact q_mweightOf mwm mw212 h.hn h.n20 (mf_hd h) hab hb
  have eeo : ∀ (S : Nat → Int32) (L : Nat → Int64), pm_call 141 [.ref 200, .int (nI a), .int (nI b)] (pm_Mw w S L TT R RD SN wt' er' rk') = some (some (.int (ab_ei (Yv R 1) (b + 1 - a) a 0)), pm_Mw w S L TT R RD SN wt' er' rk') := fun _ _ => q_mearningsOf mwm mw212 hab hb
  simp only [pe142, z142_0, z142_1, z142_2, z142_5, z142_6, z142_7, z142_10, pm_kv_some, pm_kw_some, pm_k_some, pm_k_void, pm_vc_some, pm_kl_some, pp6_0, pp6_2, pp6_3, pp6_4, pp6_5, pp6_6, pp6_7, pp6_8, pp6_9, pp6_10, pp6_14, pp6_18, pp6_19, pp6_20, pp6_21, pp6_22, mw200, aS0, aS2, aS3, aS4, aS5, aS6, aS7, aS8, aS9, aS14, aS18, aS19, aS20, aL10, aL21, aL22, mu200, q_misRun hab hb]
  rw [if_neg (by decide)]
  simp only [z142_13, z142_14, z142_15, z142_16, z142_19, pm_kv_some, pm_kw_some, pm_k_some, pm_k_void, pm_vc_some, pm_kl_some, q_isIn]
  rw [if_neg hv0, if_neg hv5, if_neg (by decide)]
  simp only [z142_27, z142_28, z142_29, z142_30, z142_31, z142_34, z142_36, z142_37, pm_kv_some, pm_kw_some, pm_k_some, pm_k_void, pm_vc_some, pm_kl_some, mw200, h1, ab_run]
  by_cases v0 : v = 0
  · subst v0
    rw [if_pos rfl, if_pos rfl]
    simp only [z142_72, z142_73, z142_74, z142_75, z142_78, pm_kv_some, pm_kw_some, pm_k_some, pm_k_void, pm_vc_some, pm_kl_some, mw200, eeo]
    rw [← ee]
    congr 4
    apply i3_eq
    rw [Int64.toInt_toInt32, i3_w, Int.bmod_def]; omega
  · rw [if_neg v0, if_neg v0]
    by_cases v1 : v = 1
    · subst v1
      rw [if_pos rfl, if_pos rfl]
      simp only [z142_79, z142_80, z142_81, z142_82, z142_85, z142_86, z142_87, z142_88, z142_89, z142_92, z142_93, z142_94, z142_97, pm_kv_some, pm_kw_some, pm_k_some, pm_k_void, pm_vc_some, pm_kl_some, mw200, eeo, ewo, m_share hV0, ee]
      rw [ab_as_sh hab hb hV.1]
    · rw [if_neg v1, if_neg v1]
      by_cases v2 : v = 2
      · subst v2
        rw [if_pos rfl, if_pos rfl]
        simp only [z142_98, z142_100]
      · rw [if_neg v2, if_neg v2]
        by_cases v3 : v = 3
        · subst v3
          rw [if_pos rfl, if_pos rfl]
          simp only [z142_101, z142_102, z142_105, pm_kv_some, pm_kw_some, pm_k_some, pm_k_void, pm_vc_some, pm_kl_some, pg6_0, pg6_1, pg6_2, pg6_3, pg6_4, pg6_5, pg6_6, pg6_7, pg6_8, pg6_9, pg6_10, pg6_11, pg6_12, pg6_13, pg6_14, pg6_15, pg6_16, pg6_17, pg6_18, pg6_19, pg6_20, pg6_21, pg6_22, mw200, aS0, aS2, aS3, aS4, aS5, aS6, aS7, aS8, aS9, aS14, aS18, aS19, aS20, aL10, aL21, aL22]
        · rw [if_neg v3, if_neg v3]
          by_cases v4 : v = 4
          · subst v4
            rw [if_pos rfl, if_pos rfl]
            simp only [z142_106, z142_107, z142_110, pm_kv_some, pm_kw_some, pm_k_some, pm_k_void, pm_vc_some, pm_kl_some, pg6_0, pg6_1, pg6_2, pg6_3, pg6_4, pg6_5, pg6_6, pg6_7, pg6_8, pg6_9, pg6_10, pg6_11, pg6_12, pg6_13, pg6_14, pg6_15, pg6_16, pg6_17, pg6_18, pg6_19, pg6_20, pg6_21, pg6_22, mw200, aS0, aS2, aS3, aS4, aS5, aS6, aS7, aS8, aS9, aS14, aS18, aS19, aS20, aL10, aL21, aL22]
          · rw [if_neg v4, if_neg v4]
            simp only [z142_111, z142_112, z142_115, pm_kv_some, pm_kw_some, pm_k_some, pm_k_void, pm_vc_some, pm_kl_some, pg6_0, pg6_1, pg6_2, pg6_3, pg6_4, pg6_5, pg6_6, pg6_7, pg6_8, pg6_9, pg6_10, pg6_11, pg6_12, pg6_13, pg6_14, pg6_15, pg6_16, pg6_17, pg6_18, pg6_19, pg6_20, pg6_21, pg6_22, mw200, aS0, aS2, aS3, aS4, aS5, aS6, aS7, aS8, aS9, aS14, aS18, aS19, aS20, aL10, aL21, aL22]
theorem m_rank (h : ab_wf (Yv R) n N) (hab : a ≤ b) (hb : b < 4) {v : Int32} : ∃ (s18' s19' s20' : Int32) (wt' er' : Nat → Int64) (rk' : Nat → Int32) (v' e' : Int64), pm_call 148 [.ref 200, .int (nI a), .int (nI b), .int v] (pm_Mw w (ab_S s0 s2 s3 s4 s5 s6 s7 s8 s9 s14 s18 s19 s20) (ab_Lg l10 l21 l22) TT R RD SN wt er rk) = some (some (.int (if v < 0 then -1 else if v < nI (ab_L (Yv R) n N a b (-1) (ab_e (Yv R) 0 b)).length then nI ((ab_L (Yv R) n N a b (-1) (ab_e (Yv R) 0 b)).getD v.toNatClampNeg 0) else -1)), (pm_Mw w (ab_S 0 s2 s3 s4 s5 s6 s7 s8 s9 s14 s18' s19' s20') (ab_Lg l10 v' e') TT R RD SN wt' er' rk')) := by
  obtain ⟨wt', er', rk', v', e', h1, h2⟩ := m_rec (w := w) (TT := TT) (R := R) (RD := RD) (SN := SN) (wt := wt) (er := er) (rk := rk) (s0 := 0) (s2 := s2) (s3 := s3) (s4 := s4) (s5 := s5) (s6 := s6) (s7 := s7) (s8 := s8) (s9 := s9) (s14 := s14) (s18 := s18) (s19 := s19) (s20 := s20) (l10 := l10) (l21 := l21) (l22 := l22) (bt := -1) h hab hb
  refine ⟨(nI (ab_L (Yv R) n N a b (-1) (ab_e (Yv R) 0 b)).length), (ab_T (Yv R) n N a b (-1) (ab_e (Yv R) a b) (ab_e (Yv R) 0 b)).1, (ab_T (Yv R) n N a b (-1) (ab_e (Yv R) a b) (ab_e (Yv R) 0 b)).2.1, wt', er', rk', v', e', ?_⟩
  have h8 := h.N8
  have hlen : (ab_L (Yv R) n N a b (-1) (ab_e (Yv R) 0 b)).length ≤ N := ab_rl_len
  simp only [pe148, z148_0, z148_1, z148_2, z148_5, z148_6, z148_7, z148_10, pm_kv_some, pm_kw_some, pm_k_some, pm_k_void, pm_vc_some, pm_kl_some, pp6_0, pp6_2, pp6_3, pp6_4, pp6_5, pp6_6, pp6_7, pp6_8, pp6_9, pp6_10, pp6_14, pp6_18, pp6_19, pp6_20, pp6_21, pp6_22, mw200, aS0, aS2, aS3, aS4, aS5, aS6, aS7, aS8, aS9, aS14, aS18, aS19, aS20, aL10, aL21, aL22, mu200, q_misRun hab hb]
  rw [if_neg (by decide)]
  simp only [z148_18, z148_19, z148_20, z148_21, z148_22, z148_25, z148_26, z148_27, z148_28, z148_31, z148_32, z148_33, z148_36, pm_kv_some, pm_kw_some, pm_k_some, pm_k_void, pm_vc_some, pm_kl_some, pg6_0, pg6_1, pg6_2, pg6_3, pg6_4, pg6_5, pg6_6, pg6_7, pg6_8, pg6_9, pg6_10, pg6_11, pg6_12, pg6_13, pg6_14, pg6_15, pg6_16, pg6_17, pg6_18, pg6_19, pg6_20, pg6_21, pg6_22, mw200, aS0, aS2, aS3, aS4, aS5, aS6, aS7, aS8, aS9, aS14, aS18, aS19, aS20, aL10, aL21, aL22, h1, q_isIn]
  by_cases c1 : v < 0
  · rw [if_pos c1, if_pos rfl, if_pos c1]
    simp only [z148_48, z148_49]
  · rw [if_neg c1, if_neg c1]
    by_cases c2 : v < nI (ab_L (Yv R) n N a b (-1) (ab_e (Yv R) 0 b)).length
    · rw [if_neg (fun z => (pm_m1lt (by omega)).mp z c2), if_neg (by decide), if_pos c2]
      obtain ⟨j, hj, e⟩ := pm_ixN c1 c2 (by omega)
      subst e
      simp only [z148_39, z148_40, z148_43, z148_44, z148_45, z148_49, pm_kv_some, pm_kw_some, pm_k_some, pm_k_void, pm_vc_some, pm_kl_some, pg6_0, pg6_1, pg6_2, pg6_3, pg6_4, pg6_5, pg6_6, pg6_7, pg6_8, pg6_9, pg6_10, pg6_11, pg6_12, pg6_13, pg6_14, pg6_15, pg6_16, pg6_17, pg6_18, pg6_19, pg6_20, pg6_21, pg6_22, mw200, mw218, pm_ia_in (vp_in_nI (show j < 8 by omega) (by omega)), nI_clamp (show j < 2 ^ 31 by omega), (h2 j hj).1]
    · rw [if_pos ((pm_m1lt (by omega)).mpr c2), if_pos rfl, if_neg c2]
      simp only [z148_48, z148_49]
theorem m_rank0 {x y v : Int32} (hr : ¬ ab_rok x y) : pm_call 148 [.ref 200, .int x, .int y, .int v] (pm_Mw w (ab_S s0 s2 s3 s4 s5 s6 s7 s8 s9 s14 s18 s19 s20) (ab_Lg l10 l21 l22) TT R RD SN wt er rk) = some (some (.int 0), (pm_Mw w (ab_S 1 s2 s3 s4 s5 s6 s7 s8 s9 s14 s18 s19 s20) (ab_Lg l10 l21 l22) TT R RD SN wt er rk)) := by
  simp only [pe148, z148_0, z148_1, z148_2, z148_5, z148_6, z148_7, z148_10, pm_kv_some, pm_kw_some, pm_k_some, pm_k_void, pm_vc_some, pm_kl_some, pp6_0, pp6_2, pp6_3, pp6_4, pp6_5, pp6_6, pp6_7, pp6_8, pp6_9, pp6_10, pp6_14, pp6_18, pp6_19, pp6_20, pp6_21, pp6_22, mw200, aS0, aS2, aS3, aS4, aS5, aS6, aS7, aS8, aS9, aS14, aS18, aS19, aS20, aL10, aL21, aL22, mu200, q_misRun0 hr]
  rw [if_pos trivial]
  simp only [z148_13, z148_14, z148_17, pm_kv_some, pm_kw_some, pm_k_some, pm_k_void, pm_vc_some, pm_kl_some, mw200, q_refuse]
theorem m_without (h : ab_wf (Yv R) n N) (hab : a ≤ b) (hb : b < 4) {i : Int32} : ∃ (s18' s19' s20' : Int32) (wt' er' : Nat → Int64) (rk' : Nat → Int32) (v' e' : Int64), pm_call 149 [.ref 200, .int i, .int (nI a), .int (nI b)] (pm_Mw w (ab_S s0 s2 s3 s4 s5 s6 s7 s8 s9 s14 s18 s19 s20) (ab_Lg l10 l21 l22) TT R RD SN wt er rk) = some (some (.int (if i < 0 then -1000000000 else if i < nI N then ab_dil (Yv R) n N a b i else -1000000000)), (pm_Mw w (ab_S 0 s2 s3 s4 s5 s6 s7 s8 s9 s14 s18' s19' s20') (ab_Lg l10 v' e') TT R RD SN wt' er' rk')) := by
  obtain ⟨wt', er', rk', v', e', h1, -⟩ := m_dil (w := w) (TT := TT) (R := R) (RD := RD) (SN := SN) (wt := wt) (er := er) (rk := rk) (s0 := 0) (s2 := s2) (s3 := s3) (s4 := s4) (s5 := s5) (s6 := s6) (s7 := s7) (s8 := s8) (s9 := s9) (s14 := s14) (s18 := s18) (s19 := s19) (s20 := s20) (l10 := l10) (l21 := l21) (l22 := l22) (bt := i) h hab hb
  have st : pm_call 149 [.ref 200, .int i, .int (nI a), .int (nI b)] (pm_Mw w (ab_S s0 s2 s3 s4 s5 s6 s7 s8 s9 s14 s18 s19 s20) (ab_Lg l10 l21 l22) TT R RD SN wt er rk) = if (if i < 0 then 0 else if i < nI N then (1 : Int32) else 0) = 0 then pm_ev 149 36 [some (.ref 200), some (.int i), some (.int (nI a)), some (.int (nI b))] [] (pm_Mw w (ab_S 0 s2 s3 s4 s5 s6 s7 s8 s9 s14 s18 s19 s20) (ab_Lg l10 l21 l22) TT R RD SN wt er rk) else pm_ev 149 26 [some (.ref 200), some (.int i), some (.int (nI a)), some (.int (nI b))] [] (pm_Mw w (ab_S 0 s2 s3 s4 s5 s6 s7 s8 s9 s14 s18 s19 s20) (ab_Lg l10 l21 l22) TT R RD SN wt er rk) := by
    simp only [pe149, z149_0, z149_1, z149_2, z149_5, z149_6, z149_7, z149_10, pm_kv_some, pm_kw_some, pm_k_some, pm_k_void, pm_vc_some, pm_kl_some, pp6_0, pp6_2, pp6_3, pp6_4, pp6_5, pp6_6, pp6_7, pp6_8, pp6_9, pp6_10, pp6_14, pp6_18, pp6_19, pp6_20, pp6_21, pp6_22, mw200, aS0, aS2, aS3, aS4, aS5, aS6, aS7, aS8, aS9, aS14, aS18, aS19, aS20, aL10, aL21, aL22, mu200, q_misRun hab hb]
    rw [if_neg (by decide)]
    simp only [z149_18, z149_19, z149_20, z149_23, pm_kv_some, pm_kw_some, pm_k_some, pm_k_void, pm_vc_some, pm_kl_some, mw200, m_isInstrument h]
  rw [st]
  by_cases c1 : i < 0
  · refine ⟨s18, s19, s20, wt, er, rk, l21, l22, ?_⟩
    rw [if_pos c1, if_pos rfl, if_pos c1]
    simp only [z149_36, z149_39]
  · rw [if_neg c1, if_neg c1]
    by_cases c2 : i < nI N
    · refine ⟨(nI (ab_L (Yv R) n N a b i (ab_e (Yv R) 0 b)).length), (ab_T (Yv R) n N a b i (ab_e (Yv R) a b) (ab_e (Yv R) 0 b)).1, (ab_T (Yv R) n N a b i (ab_e (Yv R) a b) (ab_e (Yv R) 0 b)).2.1, wt', er', rk', v', e', ?_⟩
      rw [if_pos c2, if_neg (by decide), if_pos c2]
      simp only [z149_26, z149_27, z149_28, z149_29, z149_30, z149_33, z149_39, pm_kv_some, pm_kw_some, pm_k_some, pm_k_void, pm_vc_some, pm_kl_some, mw200, h1]
    · refine ⟨s18, s19, s20, wt, er, rk, l21, l22, ?_⟩
      rw [if_neg c2, if_pos rfl, if_neg c2]
      simp only [z149_36, z149_39]
theorem m_without0 {x y v : Int32} (hr : ¬ ab_rok x y) : pm_call 149 [.ref 200, .int v, .int x, .int y] (pm_Mw w (ab_S s0 s2 s3 s4 s5 s6 s7 s8 s9 s14 s18 s19 s20) (ab_Lg l10 l21 l22) TT R RD SN wt er rk) = some (some (.int 0), (pm_Mw w (ab_S 1 s2 s3 s4 s5 s6 s7 s8 s9 s14 s18 s19 s20) (ab_Lg l10 l21 l22) TT R RD SN wt er rk)) := by
  simp only [pe149, z149_0, z149_1, z149_2, z149_5, z149_6, z149_7, z149_10, pm_kv_some, pm_kw_some, pm_k_some, pm_k_void, pm_vc_some, pm_kl_some, pp6_0, pp6_2, pp6_3, pp6_4, pp6_5, pp6_6, pp6_7, pp6_8, pp6_9, pp6_10, pp6_14, pp6_18, pp6_19, pp6_20, pp6_21, pp6_22, mw200, aS0, aS2, aS3, aS4, aS5, aS6, aS7, aS8, aS9, aS14, aS18, aS19, aS20, aL10, aL21, aL22, mu200, q_misRun0 hr]
  rw [if_pos trivial]
  simp only [z149_13, z149_14, z149_17, pm_kv_some, pm_kw_some, pm_k_some, pm_k_void, pm_vc_some, pm_kl_some, mw200, q_refuse]
end PMR
