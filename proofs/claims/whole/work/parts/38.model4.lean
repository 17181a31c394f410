/-! THE MODEL, part 4: what is asked -/
section PMQ
variable {w : pm_H} {TT R RD SN : Nat → Int32} {wt er : Nat → Int64} {rk : Nat → Int32} {s0 s2 s3 s4 s5 s6 s7 s8 s9 s14 s18 s19 s20 : Int32} {l10 l21 l22 : Int64} {n N a b : Nat} {bt : Int32}
theorem mf_hd (h : ab_wf (Yv R) n N) : ∀ k, k < n → ¬ 359 < Yv R 5 k := fun k hk => by
  have := (h.ik k hk).2.1.2
  rw [i3_lt]
  show ¬ 359 < (Yv R 5 k).toInt
  omega
theorem mf_hD (h : ab_wf (Yv R) n N) : ∀ i, i < N → Yv R 9 i < 2147483647 := fun i hi => by
  have := (h.ii i hi).2.1.2
  rw [i3_lt]
  show (Yv R 9 i).toInt < 2147483647
  omega
theorem mf_hp (h : ab_wf (Yv R) n N) : ∀ i q, i < N → q < 4 → 0 < ab_pr (Yv R) n i q - Yv R 11 i → ¬ (ab_pr (Yv R) n i q).toInt64 = 0 := fun i q _ hq _ e => by
  have h1 := (ab_pr_b h (i := i) hq).1
  have h2 := congrArg Int64.toInt e
  rw [i3_w] at h2
  have z : (0 : Int64).toInt = 0 := rfl
  omega
theorem mf_nn (h : ab_wf (Yv R) n N) (hab : a ≤ b) (hb : b < 4) : ∀ i, i < N → ¬ ab_awM (Yv R) n i a b = 0 → 0 < ab_awM (Yv R) n i a b := fun i hi e => by
  have h1 := ab_awM_b h hi hab hb
  have z : (0 : Int64).toInt = 0 := rfl
  have h2 : ¬ (ab_awM (Yv R) n i a b).toInt = 0 := fun q => e (Int64.toInt_inj.mp q)
  rw [i6_lt, z]; omega
theorem mf_v (h : ab_wf (Yv R) n N) (hab : a ≤ b) (hb : b < 4) : ¬ (ab_TM (Yv R) n N a b bt).2.2.2 = 0 := fun e => by
  rw [ab_TM_T h hab hb] at e
  have h1 := ab_T_v h hab hb (lo := bt) (e := ab_e (Yv R) a b) (re := ab_e (Yv R) 0 b)
  rw [e] at h1
  exact absurd h1 (by decide)
/-- reckons and diluted, of a well-formed row -/
theorem m_rec (h : ab_wf (Yv R) n N) (hab : a ≤ b) (hb : b < 4) : ∃ (wt' er' : Nat → Int64) (rk' : Nat → Int32) (v' e' : Int64), pm_call 144 [.ref 200, .int (nI a), .int (nI b), .int bt] (pm_Mw w (ab_S s0 s2 s3 s4 s5 s6 s7 s8 s9 s14 s18 s19 s20) (ab_Lg l10 l21 l22) TT R RD SN wt er rk) = some (none, (pm_Mw w (ab_S s0 s2 s3 s4 s5 s6 s7 s8 s9 s14 (nI (ab_L (Yv R) n N a b bt (ab_e (Yv R) 0 b)).length) (ab_T (Yv R) n N a b bt (ab_e (Yv R) a b) (ab_e (Yv R) 0 b)).1 (ab_T (Yv R) n N a b bt (ab_e (Yv R) a b) (ab_e (Yv R) 0 b)).2.1) (ab_Lg l10 v' e') TT R RD SN wt' er' rk')) ∧ ab_rpf rk' (ab_L (Yv R) n N a b bt (ab_e (Yv R) 0 b)) := by
  obtain ⟨wt', er', rk', h1, h2⟩ := m_reckons (w := w) (TT := TT) (R := R) (RD := RD) (SN := SN) (wt := wt) (er := er) (rk := rk) (s0 := s0) (s2 := s2) (s3 := s3) (s4 := s4) (s5 := s5) (s6 := s6) (s7 := s7) (s8 := s8) (s9 := s9) (s14 := s14) (s18 := s18) (s19 := s19) (s20 := s20) (l10 := l10) (l21 := l21) (l22 := l22) (bt := bt) h.hn h.n20 h.hN h.N8 hab hb (mf_hD h) (mf_hd h) (mf_hp h) (mf_nn h hab hb)
  rw [ab_LM_L h hab hb] at h1 h2
  rw [ab_TM_T h hab hb] at h1
  exact ⟨wt', er', rk', _, _, h1, h2⟩
theorem m_dil (h : ab_wf (Yv R) n N) (hab : a ≤ b) (hb : b < 4) : ∃ (wt' er' : Nat → Int64) (rk' : Nat → Int32) (v' e' : Int64), pm_call 143 [.ref 200, .int (nI a), .int (nI b), .int bt] (pm_Mw w (ab_S s0 s2 s3 s4 s5 s6 s7 s8 s9 s14 s18 s19 s20) (ab_Lg l10 l21 l22) TT R RD SN wt er rk) = some (some (.int (ab_dil (Yv R) n N a b bt)), (pm_Mw w (ab_S s0 s2 s3 s4 s5 s6 s7 s8 s9 s14 (nI (ab_L (Yv R) n N a b bt (ab_e (Yv R) 0 b)).length) (ab_T (Yv R) n N a b bt (ab_e (Yv R) a b) (ab_e (Yv R) 0 b)).1 (ab_T (Yv R) n N a b bt (ab_e (Yv R) a b) (ab_e (Yv R) 0 b)).2.1) (ab_Lg l10 v' e') TT R RD SN wt' er' rk')) ∧ ab_rpf rk' (ab_L (Yv R) n N a b bt (ab_e (Yv R) 0 b)) := by
  obtain ⟨wt', er', rk', h1, h2⟩ := m_diluted (w := w) (TT := TT) (R := R) (RD := RD) (SN := SN) (wt := wt) (er := er) (rk := rk) (s0 := s0) (s2 := s2) (s3 := s3) (s4 := s4) (s5 := s5) (s6 := s6) (s7 := s7) (s8 := s8) (s9 := s9) (s14 := s14) (s18 := s18) (s19 := s19) (s20 := s20) (l10 := l10) (l21 := l21) (l22 := l22) (bt := bt) h.hn h.n20 h.hN h.N8 hab hb (mf_hD h) (mf_hd h) (mf_hp h) (mf_nn h hab hb) (mf_v h hab hb)
  rw [ab_LM_L h hab hb] at h1 h2
  rw [ab_TM_T h hab hb, ab_dilM_e h hab hb] at h1
  exact ⟨wt', er', rk', _, _, h1, h2⟩
/-- small tests -/
def ab_rok (a b : Int32) : Prop := ¬ a < 0 ∧ ¬ b < a ∧ b < 4
theorem ab_rok_n {x y : Int32} (h : ab_rok x y) : ∃ a b : Nat, x = nI a ∧ y = nI b ∧ a ≤ b ∧ b < 4 := by
  obtain ⟨h1, h2, h3⟩ := h
  have h0 : ¬ y < 0 := fun c => h1 (by rw [i3_lt] at *; omega)
  obtain ⟨b, hb, eb⟩ := pm_ixN (n := 4) h0 h3 (by omega)
  have h4 : x < 4 := by rw [i3_lt] at *; omega
  obtain ⟨a, ha, ea⟩ := pm_ixN (n := 4) h1 h4 (by omega)
  refine ⟨a, b, ea, eb, ?_, hb⟩
  subst ea; subst eb
  rw [nI_ltI (by omega) (by omega)] at h2
  omega
theorem q_misQuarter {w : pm_H} {q : Int32} : pm_call 125 [.int q] w = some (some (.int (if q < 0 then 0 else if 3 < q then 0 else 1)), w) := by
  simp only [pe125, z125_0, z125_1, z125_2, z125_3, z125_6, pm_kv_some, pm_kw_some, pm_k_some, pm_k_void, pm_vc_some, pm_kl_some, q_isIn, pm_zr0, pm_zr1]
  split
  · rfl
  · split <;> rfl
theorem q_misDay {w : pm_H} {q : Int32} : pm_call 121 [.int q] w = some (some (.int (if q < 0 then 0 else if 359 < q then 0 else 1)), w) := by
  simp only [pe121, z121_0, z121_1, z121_2, z121_5, z121_8, pm_kv_some, pm_kw_some, pm_k_some, pm_k_void, pm_vc_some, pm_kl_some, q_isIn, pm_zr0, pm_zr1]
  split
  · rfl
  · split <;> rfl
theorem q_misRun {w : pm_H} (hab : a ≤ b) (hb : b < 4) : pm_call 133 [.int (nI a), .int (nI b)] w = some (some (.int 1), w) := by
  have e1 : ¬ 3 < nI a := by rw [show (3 : Int32) = nI 3 from rfl, nI_ltI (by omega) (by omega)]; omega
  have e2 : ¬ 3 < nI b := by rw [show (3 : Int32) = nI 3 from rfl, nI_ltI (by omega) (by omega)]; omega
  simp only [pe133, z133_0, z133_1, z133_4, pm_kv_some, pm_kw_some, pm_k_some, pm_k_void, pm_vc_some, pm_kl_some, q_misQuarter]
  rw [if_neg (nI_pos (by omega)), if_neg e1, if_neg (by decide)]
  simp only [z133_7, z133_8, z133_11, pm_kv_some, pm_kw_some, pm_k_some, pm_k_void, pm_vc_some, pm_kl_some, q_misQuarter]
  rw [if_neg (nI_pos (by omega)), if_neg e2, if_neg (by decide)]
  simp only [z133_14, z133_15, z133_16, z133_19, z133_20, z133_23, z133_24]
  rw [if_neg (nI_nlt hab (by omega))]
  rfl
theorem q_misRun0 {w : pm_H} {x y : Int32} (h : ¬ ab_rok x y) : pm_call 133 [.int x, .int y] w = some (some (.int 0), w) := by
  simp only [pe133, z133_0, z133_1, z133_4, pm_kv_some, pm_kw_some, pm_k_some, pm_k_void, pm_vc_some, pm_kl_some, q_misQuarter]
  have fin : pm_ev 133 23 [some (.int x), some (.int y)] [] w = some (some (.int 0), w) := by simp only [z133_23, z133_24, pm_zr0]
  by_cases c1 : x < 0
  · rw [if_pos c1, if_pos rfl]; exact fin
  · rw [if_neg c1]
    by_cases c2 : 3 < x
    · rw [if_pos c2, if_pos rfl]; exact fin
    · rw [if_neg c2, if_neg (by decide)]
      simp only [z133_7, z133_8, z133_11, pm_kv_some, pm_kw_some, pm_k_some, pm_k_void, pm_vc_some, pm_kl_some, q_misQuarter]
      by_cases c3 : y < 0
      · rw [if_pos c3, if_pos rfl]; exact fin
      · rw [if_neg c3]
        by_cases c4 : 3 < y
        · rw [if_pos c4, if_pos rfl]; exact fin
        · rw [if_neg c4, if_neg (by decide)]
          simp only [z133_14, z133_15, z133_16]
          have c5 : y < x := Classical.byContradiction fun c => h ⟨c1, c, by
            rw [i3_lt] at c4 ⊢
            have : ¬ (3 : Int) < y.toInt := c4
            show y.toInt < 4
            omega⟩
          rw [if_pos c5]; exact fin
theorem q_refuse : pm_call 126 [.ref 200] (pm_Mw w (ab_S s0 s2 s3 s4 s5 s6 s7 s8 s9 s14 s18 s19 s20) (ab_Lg l10 l21 l22) TT R RD SN wt er rk) = some (some (.int 0), (pm_Mw w (ab_S 1 s2 s3 s4 s5 s6 s7 s8 s9 s14 s18 s19 s20) (ab_Lg l10 l21 l22) TT R RD SN wt er rk)) := by
  simp only [pe126, z126_0, z126_1, z126_2, z126_5, z126_6, pm_kv_some, pm_kw_some, pm_k_some, pm_k_void, pm_vc_some, pm_kl_some, pp6_0, pp6_2, pp6_3, pp6_4, pp6_5, pp6_6, pp6_7, pp6_8, pp6_9, pp6_10, pp6_14, pp6_18, pp6_19, pp6_20, pp6_21, pp6_22, mw200, aS0, aS2, aS3, aS4, aS5, aS6, aS7, aS8, aS9, aS14, aS18, aS19, aS20, aL10, aL21, aL22, mu200]
theorem m_isInstrument {i : Int32} (h : ab_wf (Yv R) n N) {S : Nat → Int32} {L : Nat → Int64} : pm_call 129 [.ref 200, .int i] (pm_Mw w S L TT R RD SN wt er rk) = some (some (.int (if i < 0 then 0 else if i < nI N then 1 else 0)), pm_Mw w S L TT R RD SN wt er rk) := by
  have h8 := h.N8
  have hN : R 70 = nI N := h.hN
  simp only [pe129, z129_0, z129_1, z129_2, z129_3, z129_6, z129_8, z129_9, z129_10, z129_11, z129_14, pm_kv_some, pm_kw_some, pm_k_some, pm_k_void, pm_vc_some, pm_kl_some, pg6_0, pg6_1, pg6_2, pg6_3, pg6_4, pg6_5, pg6_6, pg6_7, pg6_8, pg6_9, pg6_10, pg6_11, pg6_12, pg6_13, pg6_14, pg6_15, pg6_16, pg6_17, pg6_18, pg6_19, pg6_20, pg6_21, pg6_22, mw200, mw212, pm_ia_in pm_in70, pm_cl70, hN, q_isIn]
  by_cases c : i < 0
  · rw [if_pos c, if_pos c]; rfl
  · rw [if_neg c, if_neg c]
    have e1 : (nI N - 1 < i) ↔ ¬ i < nI N := by
      have t : (nI N).toInt = N := nI_toInt (by omega)
      have t1 : (1 : Int32).toInt = 1 := rfl
      rw [i3_lt, i3_lt, i3_sub (by rw [t, t1]; omega) (by rw [t, t1]; omega), t, t1]
      omega
    by_cases c2 : i < nI N
    · rw [if_pos c2, if_neg (fun z => e1.mp z c2)]; rfl
    · rw [if_neg c2, if_pos (e1.mpr c2)]; rfl
/-- the last shares: 360 or 359 is the same -/
theorem ab_sh_360 {Y : Nat → Nat → Int32} {n N : Nat} (h : ab_wf Y n N) : ab_sh (Y 4) (Y 5) (Y 6) 360 n 0 (Y 0 0) = ab_sh (Y 4) (Y 5) (Y 6) 359 n 0 (Y 0 0) := by
  refine ab_sh_D (n := n) (fun j hj => ?_) n 0 _ (by omega)
  have := (h.ik j hj).2.1.2
  rw [i3_lt, i3_lt]
  show (360 : Int) < _ ↔ (359 : Int) < _
  omega
theorem m_now (h : ab_wf (Yv R) n N) {v : Int32} : pm_call 119 [.ref 200, .int v] (pm_Mw w (ab_S s0 s2 s3 s4 s5 s6 s7 s8 s9 s14 s18 s19 s20) (ab_Lg l10 l21 l22) TT R RD SN wt er rk) = some (some (.int (if v = 0 then nI n else if v = 1 then Yv R 7 0 else if v = 2 then ab_sc (Yv R 4) n 0 0 else if v = 3 then ab_sh (Yv R 4) (Yv R 5) (Yv R 6) 359 n 0 (Yv R 0 0) else if v = 4 then (if n = 0 then -1 else Yv R 5 (n - 1)) else if v = 5 then s14 else if v = 6 then s2 else -1)), (pm_Mw w (ab_S 0 s2 s3 s4 s5 s6 s7 s8 s9 s14 s18 s19 s20) (ab_Lg l10 l21 l22) TT R RD SN wt er rk)) := by
  have hn : R 9 = nI n := h.hn
  have h20 := h.n20
  have h360 := ab_sh_360 h
  rw [← h360]
  simp only [pe119, z119_0, z119_1, z119_2, z119_5, z119_6, pm_kv_some, pm_kw_some, pm_k_some, pm_k_void, pm_vc_some, pm_kl_some, pp6_0, pp6_2, pp6_3, pp6_4, pp6_5, pp6_6, pp6_7, pp6_8, pp6_9, pp6_10, pp6_14, pp6_18, pp6_19, pp6_20, pp6_21, pp6_22, mw200, aS0, aS2, aS3, aS4, aS5, aS6, aS7, aS8, aS9, aS14, aS18, aS19, aS20, aL10, aL21, aL22, mu200]
  by_cases v0 : v = 0
  · subst v0
    rw [if_pos rfl, if_pos rfl]
    simp only [z119_48, z119_49, z119_52, z119_54, z119_55, pm_kv_some, pm_kw_some, pm_k_some, pm_k_void, pm_vc_some, pm_kl_some, pg6_0, pg6_1, pg6_2, pg6_3, pg6_4, pg6_5, pg6_6, pg6_7, pg6_8, pg6_9, pg6_10, pg6_11, pg6_12, pg6_13, pg6_14, pg6_15, pg6_16, pg6_17, pg6_18, pg6_19, pg6_20, pg6_21, pg6_22, mw200, mw212, pm_ia_in pm_in9, pm_cl9, hn]
  · rw [if_neg v0, if_neg v0]
    by_cases v1 : v = 1
    · subst v1
      rw [if_pos rfl, if_pos rfl]
      simp only [z119_56, z119_57, z119_60, z119_62, z119_63, pm_kv_some, pm_kw_some, pm_k_some, pm_k_void, pm_vc_some, pm_kl_some, pg6_0, pg6_1, pg6_2, pg6_3, pg6_4, pg6_5, pg6_6, pg6_7, pg6_8, pg6_9, pg6_10, pg6_11, pg6_12, pg6_13, pg6_14, pg6_15, pg6_16, pg6_17, pg6_18, pg6_19, pg6_20, pg6_21, pg6_22, mw200, mw212, pm_ia_in pm_in70, pm_cl70]
      rfl
    · rw [if_neg v1, if_neg v1]
      by_cases v2 : v = 2
      · subst v2
        rw [if_pos rfl, if_pos rfl]
        simp only [z119_64, z119_65, z119_68, z119_71, pm_kv_some, pm_kw_some, pm_k_some, pm_k_void, pm_vc_some, pm_kl_some, pg6_0, pg6_1, pg6_2, pg6_3, pg6_4, pg6_5, pg6_6, pg6_7, pg6_8, pg6_9, pg6_10, pg6_11, pg6_12, pg6_13, pg6_14, pg6_15, pg6_16, pg6_17, pg6_18, pg6_19, pg6_20, pg6_21, pg6_22, mw200, q_splitsOf mw212 hn h20]
      · rw [if_neg v2, if_neg v2]
        by_cases v3 : v = 3
        · subst v3
          rw [if_pos rfl, if_pos rfl]
          simp only [z119_72, z119_73, z119_76, z119_79, z119_82, pm_kv_some, pm_kw_some, pm_k_some, pm_k_void, pm_vc_some, pm_kl_some, pg6_0, pg6_1, pg6_2, pg6_3, pg6_4, pg6_5, pg6_6, pg6_7, pg6_8, pg6_9, pg6_10, pg6_11, pg6_12, pg6_13, pg6_14, pg6_15, pg6_16, pg6_17, pg6_18, pg6_19, pg6_20, pg6_21, pg6_22, mw200, q_sharesOf mw212 hn h20]
          rfl
        · rw [if_neg v3, if_neg v3]
          by_cases v4 : v = 4
          · subst v4
            rw [if_pos rfl, if_pos rfl]
            simp only [z119_83, z119_84, z119_87, z119_89, z119_90, pm_kv_some, pm_kw_some, pm_k_some, pm_k_void, pm_vc_some, pm_kl_some, pg6_0, pg6_1, pg6_2, pg6_3, pg6_4, pg6_5, pg6_6, pg6_7, pg6_8, pg6_9, pg6_10, pg6_11, pg6_12, pg6_13, pg6_14, pg6_15, pg6_16, pg6_17, pg6_18, pg6_19, pg6_20, pg6_21, pg6_22, mw200, mw212, pm_ia_in pm_in9, pm_cl9, hn]
            by_cases e : n = 0
            · subst e
              rw [nI_0, if_pos rfl, if_pos rfl]
              simp only [z119_93, z119_94, z119_104]
            · rw [if_neg (nI_ne0 (by omega) (by omega)), if_neg e]
              simp only [z119_97, z119_98, z119_101, z119_104, pm_kv_some, pm_kw_some, pm_k_some, pm_k_void, pm_vc_some, pm_kl_some, pg6_0, pg6_1, pg6_2, pg6_3, pg6_4, pg6_5, pg6_6, pg6_7, pg6_8, pg6_9, pg6_10, pg6_11, pg6_12, pg6_13, pg6_14, pg6_15, pg6_16, pg6_17, pg6_18, pg6_19, pg6_20, pg6_21, pg6_22, mw200, q_lastDay mw212 hn h20]
              rw [if_neg e]
          · rw [if_neg v4, if_neg v4]
            by_cases v5 : v = 5
            · subst v5
              rw [if_pos rfl, if_pos rfl]
              simp only [z119_105, z119_106, z119_109, pm_kv_some, pm_kw_some, pm_k_some, pm_k_void, pm_vc_some, pm_kl_some, pg6_0, pg6_1, pg6_2, pg6_3, pg6_4, pg6_5, pg6_6, pg6_7, pg6_8, pg6_9, pg6_10, pg6_11, pg6_12, pg6_13, pg6_14, pg6_15, pg6_16, pg6_17, pg6_18, pg6_19, pg6_20, pg6_21, pg6_22, mw200, aS0, aS2, aS3, aS4, aS5, aS6, aS7, aS8, aS9, aS14, aS18, aS19, aS20, aL10, aL21, aL22]
            · rw [if_neg v5, if_neg v5]
              by_cases v6 : v = 6
              · subst v6
                rw [if_pos rfl, if_pos rfl]
                simp only [z119_110, z119_111, z119_114, pm_kv_some, pm_kw_some, pm_k_some, pm_k_void, pm_vc_some, pm_kl_some, pg6_0, pg6_1, pg6_2, pg6_3, pg6_4, pg6_5, pg6_6, pg6_7, pg6_8, pg6_9, pg6_10, pg6_11, pg6_12, pg6_13, pg6_14, pg6_15, pg6_16, pg6_17, pg6_18, pg6_19, pg6_20, pg6_21, pg6_22, mw200, aS0, aS2, aS3, aS4, aS5, aS6, aS7, aS8, aS9, aS14, aS18, aS19, aS20, aL10, aL21, aL22]
              · rw [if_neg v6, if_neg v6]
                simp only [z119_115, z119_116]
theorem m_shares (h : ab_wf (Yv R) n N) {d g : Int32} : pm_call 120 [.ref 200, .int d, .int g] (pm_Mw w (ab_S s0 s2 s3 s4 s5 s6 s7 s8 s9 s14 s18 s19 s20) (ab_Lg l10 l21 l22) TT R RD SN wt er rk) = some (some (.int (if d < 0 then -1 else if 359 < d then -1 else if g = 0 then ab_sh (Yv R 4) (Yv R 5) (Yv R 6) d n 0 (Yv R 0 0) else ab_rs (Yv R) n d)), (pm_Mw w (ab_S 0 s2 s3 s4 s5 s6 s7 s8 s9 s14 s18 s19 s20) (ab_Lg l10 l21 l22) TT R RD SN wt er rk)) := by
  have hn : R 9 = nI n := h.hn
  have h20 := h.n20
  simp only [pe120, z120_0, z120_1, z120_2, z120_5, z120_6, z120_9, pm_kv_some, pm_kw_some, pm_k_some, pm_k_void, pm_vc_some, pm_kl_some, pp6_0, pp6_2, pp6_3, pp6_4, pp6_5, pp6_6, pp6_7, pp6_8, pp6_9, pp6_10, pp6_14, pp6_18, pp6_19, pp6_20, pp6_21, pp6_22, mw200, aS0, aS2, aS3, aS4, aS5, aS6, aS7, aS8, aS9, aS14, aS18, aS19, aS20, aL10, aL21, aL22, mu200, q_misDay]
  by_cases c1 : d < 0
  · rw [if_pos c1, if_pos rfl, if_pos c1]
    simp only [z120_12, z120_13, z120_36]
  · rw [if_neg c1, if_neg c1]
    by_cases c2 : 359 < d
    · rw [if_pos c2, if_pos rfl, if_pos c2]
      simp only [z120_12, z120_13, z120_36]
    · rw [if_neg c2, if_neg c2, if_neg (by decide)]
      simp only [z120_16, z120_17]
      by_cases c3 : g = 0
      · rw [if_pos c3, if_pos c3]
        simp only [z120_28, z120_29, z120_32, z120_33, z120_36, pm_kv_some, pm_kw_some, pm_k_some, pm_k_void, pm_vc_some, pm_kl_some, pg6_0, pg6_1, pg6_2, pg6_3, pg6_4, pg6_5, pg6_6, pg6_7, pg6_8, pg6_9, pg6_10, pg6_11, pg6_12, pg6_13, pg6_14, pg6_15, pg6_16, pg6_17, pg6_18, pg6_19, pg6_20, pg6_21, pg6_22, mw200, q_sharesOf mw212 hn h20]
        rfl
      · rw [if_neg c3, if_neg c3]
        have hD : d < 2147483647 := by
          rw [i3_lt] at c2 ⊢
          have c2' : ¬ (359 : Int) < d.toInt := c2
          show d.toInt < 2147483647
          omega
        simp only [z120_20, z120_21, z120_22, z120_25, z120_36, pm_kv_some, pm_kw_some, pm_k_some, pm_k_void, pm_vc_some, pm_kl_some, mw200, q_restated mwm mw212 hn h20 hD (mf_hd h)]
theorem pm_qix (q j : Nat) : (1 : Int32) + 2 * nI q + nI j = nI (1 + 2 * q + j) := by
  rw [show (1 : Int32) = nI 1 from rfl, show (2 : Int32) = nI 2 from rfl, pk_mul, nI_add, nI_add]
theorem m_quarter {q : Nat} (hq : q < 4) : pm_call 124 [.ref 200, .int (nI q), .int 0] (pm_Mw w (ab_S s0 s2 s3 s4 s5 s6 s7 s8 s9 s14 s18 s19 s20) (ab_Lg l10 l21 l22) TT R RD SN wt er rk) = some (some (.int (Yv R 1 q)), (pm_Mw w (ab_S 0 s2 s3 s4 s5 s6 s7 s8 s9 s14 s18 s19 s20) (ab_Lg l10 l21 l22) TT R RD SN wt er rk)) ∧ pm_call 124 [.ref 200, .int (nI q), .int 1] (pm_Mw w (ab_S s0 s2 s3 s4 s5 s6 s7 s8 s9 s14 s18 s19 s20) (ab_Lg l10 l21 l22) TT R RD SN wt er rk) = some (some (.int (Yv R 2 q)), (pm_Mw w (ab_S 0 s2 s3 s4 s5 s6 s7 s8 s9 s14 s18 s19 s20) (ab_Lg l10 l21 l22) TT R RD SN wt er rk)) := by
  have e1 : ¬ 3 < nI q := by rw [show (3 : Int32) = nI 3 from rfl, nI_ltI (by omega) (by omega)]; omega
  have go : ∀ j : Nat, j < 2 → pm_call 124 [.ref 200, .int (nI q), .int (nI j)] (pm_Mw w (ab_S s0 s2 s3 s4 s5 s6 s7 s8 s9 s14 s18 s19 s20) (ab_Lg l10 l21 l22) TT R RD SN wt er rk) = some (some (.int (R (1 + 2 * q + j))), (pm_Mw w (ab_S 0 s2 s3 s4 s5 s6 s7 s8 s9 s14 s18 s19 s20) (ab_Lg l10 l21 l22) TT R RD SN wt er rk)) := by
    intro j hj
    have e2 : ¬ 1 < nI j := by rw [show (1 : Int32) = nI 1 from rfl, nI_ltI (by omega) (by omega)]; omega
    simp only [pe124, z124_0, z124_1, z124_2, z124_5, z124_6, z124_9, pm_kv_some, pm_kw_some, pm_k_some, pm_k_void, pm_vc_some, pm_kl_some, pp6_0, pp6_2, pp6_3, pp6_4, pp6_5, pp6_6, pp6_7, pp6_8, pp6_9, pp6_10, pp6_14, pp6_18, pp6_19, pp6_20, pp6_21, pp6_22, mw200, aS0, aS2, aS3, aS4, aS5, aS6, aS7, aS8, aS9, aS14, aS18, aS19, aS20, aL10, aL21, aL22, mu200, q_misQuarter]
    rw [if_neg (nI_pos (by omega)), if_neg e1, if_neg (by decide)]
    simp only [z124_12, z124_13, z124_14, z124_15, z124_18, pm_kv_some, pm_kw_some, pm_k_some, pm_k_void, pm_vc_some, pm_kl_some, q_isIn]
    rw [if_neg (nI_pos (by omega)), if_neg e2, if_neg (by decide)]
    simp only [z124_21, z124_22, z124_25, z124_26, z124_27, z124_28, z124_29, z124_30, z124_31, z124_32, z124_33, z124_40, pm_kv_some, pm_kw_some, pm_k_some, pm_k_void, pm_vc_some, pm_kl_some, pg6_0, pg6_1, pg6_2, pg6_3, pg6_4, pg6_5, pg6_6, pg6_7, pg6_8, pg6_9, pg6_10, pg6_11, pg6_12, pg6_13, pg6_14, pg6_15, pg6_16, pg6_17, pg6_18, pg6_19, pg6_20, pg6_21, pg6_22, mw200, mw212, pm_qix, pm_ia_in (vp_in_nI (show 1 + 2 * q + j < 103 by omega) (by omega)), nI_clamp (show 1 + 2 * q + j < 2 ^ 31 by omega)]
  refine ⟨go 0 (by omega), ?_⟩
  have := go 1 (by omega)
  rw [show 1 + 2 * q + 1 = 2 + 2 * q by omega] at this
  exact this
theorem m_quarter0 {q v : Int32} (h : ¬ (¬ q < 0 ∧ q < 4 ∧ (v = 0 ∨ v = 1))) : pm_call 124 [.ref 200, .int q, .int v] (pm_Mw w (ab_S s0 s2 s3 s4 s5 s6 s7 s8 s9 s14 s18 s19 s20) (ab_Lg l10 l21 l22) TT R RD SN wt er rk) = some (some (.int 0), (pm_Mw w (ab_S 1 s2 s3 s4 s5 s6 s7 s8 s9 s14 s18 s19 s20) (ab_Lg l10 l21 l22) TT R RD SN wt er rk)) := by
  simp only [pe124, z124_0, z124_1, z124_2, z124_5, z124_6, z124_9, pm_kv_some, pm_kw_some, pm_k_some, pm_k_void, pm_vc_some, pm_kl_some, pp6_0, pp6_2, pp6_3, pp6_4, pp6_5, pp6_6, pp6_7, pp6_8, pp6_9, pp6_10, pp6_14, pp6_18, pp6_19, pp6_20, pp6_21, pp6_22, mw200, aS0, aS2, aS3, aS4, aS5, aS6, aS7, aS8, aS9, aS14, aS18, aS19, aS20, aL10, aL21, aL22, mu200, q_misQuarter]
  have fin : ∀ s0, pm_ev 124 36 [some (.ref 200), some (.int q), some (.int v)] [] (pm_Mw w (ab_S s0 s2 s3 s4 s5 s6 s7 s8 s9 s14 s18 s19 s20) (ab_Lg l10 l21 l22) TT R RD SN wt er rk) = some (some (.int 0), (pm_Mw w (ab_S 1 s2 s3 s4 s5 s6 s7 s8 s9 s14 s18 s19 s20) (ab_Lg l10 l21 l22) TT R RD SN wt er rk)) := fun _ => by simp only [z124_36, z124_37, z124_40, pm_kv_some, pm_kw_some, pm_k_some, pm_k_void, pm_vc_some, pm_kl_some, mw200, q_refuse]
  by_cases c1 : q < 0
  · rw [if_pos c1, if_pos rfl]; exact fin _
  · rw [if_neg c1]
    by_cases c2 : 3 < q
    · rw [if_pos c2, if_pos rfl]; exact fin _
    · rw [if_neg c2, if_neg (by decide)]
      simp only [z124_12, z124_13, z124_14, z124_15, z124_18, pm_kv_some, pm_kw_some, pm_k_some, pm_k_void, pm_vc_some, pm_kl_some, q_isIn]
      by_cases c3 : v < 0
      · rw [if_pos c3, if_pos rfl]; exact fin _
      · rw [if_neg c3]
        have c4 : 1 < v := Classical.byContradiction fun c => h (by
          rw [i3_lt] at c c1 c2 c3
          have a1 : ¬ (1 : Int) < v.toInt := c
          have a2 : ¬ v.toInt < (0 : Int) := c3
          have a3 : ¬ (3 : Int) < q.toInt := c2
          refine ⟨by rw [i3_lt]; exact c1, by rw [i3_lt]; show q.toInt < 4; omega, ?_⟩
          have : v.toInt = 0 ∨ v.toInt = 1 := by omega
          rcases this with e | e
          · exact Or.inl (i3_eq e)
          · exact Or.inr (i3_eq e))
        rw [if_pos c4, if_pos rfl]; exact fin _
end PMQ
