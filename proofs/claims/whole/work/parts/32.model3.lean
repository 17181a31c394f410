/-! THE MODEL, part 3: taking in, a share, diluted -/
def ab_WM (Y : Nat → Nat → Int32) (n a b : Nat) : Nat → Int64 := fun i => ab_awM Y n i a b
def ab_eM (Y : Nat → Nat → Int32) (a b : Nat) : Int64 := (ab_ei (Y 1) (b + 1 - a) a 0).toInt64
def ab_VM (Y : Nat → Nat → Int32) (n a b : Nat) : Int64 := ab_wd Y n (90 * b + 90 - 90 * a) (90 * a) 0
def ab_LM (Y : Nat → Nat → Int32) (n N a b : Nat) (lo : Int32) : List Nat := (ab_cl (ab_WM Y n a b) (ab_E Y a b) lo N).reverse
def ab_TM (Y : Nat → Nat → Int32) (n N a b : Nat) (lo : Int32) : Int32 × Int32 × Int64 × Int64 := ab_tl (ab_WM Y n a b) (ab_E Y a b) (ab_LM Y n N a b lo) (ab_eM Y a b) (ab_VM Y n a b) 0
section PMN
variable {w : pm_H} {TT R RD SN : Nat → Int32} {wt er : Nat → Int64} {rk : Nat → Int32} {s0 s2 s3 s4 s5 s6 s7 s8 s9 s14 s18 s19 s20 : Int32} {l10 l21 l22 : Int64} {n N a b : Nat} {bt : Int32}
theorem m_takes {i : Nat} (hi : i < 8) : pm_call 146 [.ref 200, .int (nI i)] (pm_Mw w (ab_S s0 s2 s3 s4 s5 s6 s7 s8 s9 s14 s18 s19 s20) (ab_Lg l10 l21 l22) TT R RD SN wt er rk) = some (none, (pm_Mw w (ab_S s0 s2 s3 s4 s5 s6 s7 s8 s9 s14 s18 (s19 ||| (1 <<< (nI i &&& 31))) s20) (ab_Lg l10 (l21 + wt i) (l22 + er i)) TT R RD SN wt er rk)) := by
  have h1 : vp_in (nI i) 8 := vp_in_nI hi (by omega)
  simp only [pe146, z146_0, z146_1, z146_2, z146_5, z146_6, z146_7, z146_8, z146_9, z146_12, z146_13, z146_14, z146_17, z146_18, z146_21, z146_22, z146_23, z146_24, z146_27, z146_28, z146_29, z146_32, z146_33, z146_36, z146_37, z146_38, z146_39, z146_42, pm_kv_some, pm_kw_some, pm_k_some, pm_k_void, pm_vc_some, pm_kl_some, pg6_0, pg6_1, pg6_2, pg6_3, pg6_4, pg6_5, pg6_6, pg6_7, pg6_8, pg6_9, pg6_10, pg6_11, pg6_12, pg6_13, pg6_14, pg6_15, pg6_16, pg6_17, pg6_18, pg6_19, pg6_20, pg6_21, pg6_22, pp6_0, pp6_2, pp6_3, pp6_4, pp6_5, pp6_6, pp6_7, pp6_8, pp6_9, pp6_10, pp6_14, pp6_18, pp6_19, pp6_20, pp6_21, pp6_22, mw200, mw216, mw217, aS0, aS2, aS3, aS4, aS5, aS6, aS7, aS8, aS9, aS14, aS18, aS19, aS20, aL10, aL21, aL22, pm_la_in h1, nI_clamp (show i < 2 ^ 31 by omega), mu200]
theorem m_ti_loop {l : List Nat} {Wf Ef : Nat → Int64} {x1 x2 bt : Int32} (hl : ab_rpf rk l) (h8 : l.length ≤ 8) (hw : ∀ j, j ∈ l → wt j = Wf j ∧ er j = Ef j) : ∀ (m k : Nat) (e v : Int64) (s : Int32) (x : Option Value), k + m = l.length → pm_ev 144 181 [some (.ref 200), some (.int x1), some (.int x2), some (.int bt), some (.int (nI k)), x] [] (pm_Mw w (ab_S s0 s2 s3 s4 s5 s6 s7 s8 s9 s14 (nI l.length) s (-1)) (ab_Lg l10 v e) TT R RD SN wt er rk)
    = some (none, (pm_Mw w (ab_S s0 s2 s3 s4 s5 s6 s7 s8 s9 s14 (nI l.length) (ab_tl Wf Ef (l.drop k) e v s).1 (ab_tl Wf Ef (l.drop k) e v s).2.1) (ab_Lg l10 (ab_tl Wf Ef (l.drop k) e v s).2.2.2 (ab_tl Wf Ef (l.drop k) e v s).2.2.1) TT R RD SN wt er rk)) := by
  intro m
  induction m with
  | zero =>
    intro k e v s x hk
    conv => lhs; simp only [z144_181, z144_183, z144_184, z144_187, pm_kv_some, pm_kw_some, pm_k_some, pm_k_void, pm_vc_some, pm_kl_some, pg6_0, pg6_1, pg6_2, pg6_3, pg6_4, pg6_5, pg6_6, pg6_7, pg6_8, pg6_9, pg6_10, pg6_11, pg6_12, pg6_13, pg6_14, pg6_15, pg6_16, pg6_17, pg6_18, pg6_19, pg6_20, pg6_21, pg6_22, mw200, aS0, aS2, aS3, aS4, aS5, aS6, aS7, aS8, aS9, aS14, aS18, aS19, aS20, aL10, aL21, aL22]
    rw [if_neg (nI_nlt (by omega) (by omega)), List.drop_of_length_le (by omega)]
    simp only [z144_266, ab_tl]
  | succ m ih =>
    intro k e v s x hk
    have hkl : k < l.length := by omega
    obtain ⟨h1, h2⟩ := hl k hkl
    have hg : l.getD k 0 = l[k] := by rw [List.getD_eq_getElem?_getD, List.getElem?_eq_getElem hkl]; rfl
    rw [hg] at h1 h2
    obtain ⟨w1, w2⟩ := hw l[k] (List.getElem_mem hkl)
    have hin : vp_in (nI l[k]) 8 := vp_in_nI h2 (by omega)
    rw [List.drop_eq_getElem_cons hkl]
    conv => lhs; simp only [z144_181, z144_183, z144_184, z144_187, z144_190, z144_191, z144_194, z144_195, pm_kv_some, pm_kw_some, pm_k_some, pm_k_void, pm_vc_some, pm_kl_some, pg6_0, pg6_1, pg6_2, pg6_3, pg6_4, pg6_5, pg6_6, pg6_7, pg6_8, pg6_9, pg6_10, pg6_11, pg6_12, pg6_13, pg6_14, pg6_15, pg6_16, pg6_17, pg6_18, pg6_19, pg6_20, pg6_21, pg6_22, mw200, aS0, aS2, aS3, aS4, aS5, aS6, aS7, aS8, aS9, aS14, aS18, aS19, aS20, aL10, aL21, aL22]
    rw [if_pos (nI_lt (by omega) (by omega)), if_pos trivial]
    simp only [z144_198, z144_199, z144_202, z144_204, z144_205, z144_207, z144_208, z144_211, z144_212, z144_215, z144_217, z144_218, z144_219, z144_220, z144_223, z144_224, z144_225, z144_228, z144_229, z144_232, z144_233, z144_236, z144_238, z144_239, z144_240, z144_241, z144_242, pm_kv_some, pm_kw_some, pm_k_some, pm_k_void, pm_vc_some, pm_kl_some, pg6_0, pg6_1, pg6_2, pg6_3, pg6_4, pg6_5, pg6_6, pg6_7, pg6_8, pg6_9, pg6_10, pg6_11, pg6_12, pg6_13, pg6_14, pg6_15, pg6_16, pg6_17, pg6_18, pg6_19, pg6_20, pg6_21, pg6_22, mw200, mw216, mw217, mw218, aS0, aS2, aS3, aS4, aS5, aS6, aS7, aS8, aS9, aS14, aS18, aS19, aS20, aL10, aL21, aL22, pm_ia_in (vp_in_nI (show k < 8 by omega) (by omega)), nI_clamp (show k < 2 ^ 31 by omega), h1, pm_la_in hin, nI_clamp (show l[k] < 2 ^ 31 by omega), w1, w2, pm_lc_lt, ab_tl]
    by_cases hc : (e + Ef l[k]) * v < e * (v + Wf l[k])
    · rw [if_pos hc]
      simp only [if_pos hc, z144_245, z144_246, z144_248, z144_251, z144_260, z144_263, pm_kv_some, pm_kw_some, pm_k_some, pm_k_void, pm_vc_some, pm_kl_some, mw200, m_takes h2, w1, w2, nI_1]
      exact ih _ _ _ _ _ (by omega)
    · rw [if_neg hc]
      simp only [if_neg hc, z144_254, z144_255, z144_257, z144_260, z144_263, pm_kv_some, pm_kw_some, pm_k_some, pm_k_void, pm_vc_some, pm_kl_some, pg6_0, pg6_1, pg6_2, pg6_3, pg6_4, pg6_5, pg6_6, pg6_7, pg6_8, pg6_9, pg6_10, pg6_11, pg6_12, pg6_13, pg6_14, pg6_15, pg6_16, pg6_17, pg6_18, pg6_19, pg6_20, pg6_21, pg6_22, pp6_0, pp6_2, pp6_3, pp6_4, pp6_5, pp6_6, pp6_7, pp6_8, pp6_9, pp6_10, pp6_14, pp6_18, pp6_19, pp6_20, pp6_21, pp6_22, mw200, aS0, aS2, aS3, aS4, aS5, aS6, aS7, aS8, aS9, aS14, aS18, aS19, aS20, aL10, aL21, aL22, mu200, nI_1, z144_181, z144_183, z144_184, z144_187, z144_190, z144_191, z144_194, z144_195]
      rw [if_neg (pm_nem1 (show l[k] < 2 ^ 31 by omega))]
      simp only [z144_266, ite_self]
theorem m_reckons (hn : R 9 = nI n) (h20 : n ≤ 20) (hN : R 70 = nI N) (h8 : N ≤ 8) (hab : a ≤ b) (hb : b < 4) (hD : ∀ i, i < N → Yv R 9 i < 2147483647) (hd : ∀ k, k < n → ¬ 359 < Yv R 5 k) (hp : ∀ i q, i < N → q < 4 → 0 < ab_pr (Yv R) n i q - Yv R 11 i → ¬ (ab_pr (Yv R) n i q).toInt64 = 0) (hnn : ∀ i, i < N → ¬ ab_awM (Yv R) n i a b = 0 → 0 < ab_awM (Yv R) n i a b) :
    ∃ (wt' er' : Nat → Int64) (rk' : Nat → Int32), pm_call 144 [.ref 200, .int (nI a), .int (nI b), .int bt] (pm_Mw w (ab_S s0 s2 s3 s4 s5 s6 s7 s8 s9 s14 s18 s19 s20) (ab_Lg l10 l21 l22) TT R RD SN wt er rk) = some (none, (pm_Mw w (ab_S s0 s2 s3 s4 s5 s6 s7 s8 s9 s14 (nI (ab_LM (Yv R) n N a b bt).length) (ab_TM (Yv R) n N a b bt).1 (ab_TM (Yv R) n N a b bt).2.1) (ab_Lg l10 (ab_TM (Yv R) n N a b bt).2.2.2 (ab_TM (Yv R) n N a b bt).2.2.1) TT R RD SN wt' er' rk')) ∧ ab_rpf rk' (ab_LM (Yv R) n N a b bt) := by
  obtain ⟨wt', er', rk', x', hloop, hrep, hj⟩ := m_rk_loop (w := w) (TT := TT) (R := R) (RD := RD) (SN := SN) (s0 := s0) (s2 := s2) (s3 := s3) (s4 := s4) (s5 := s5) (s6 := s6) (s7 := s7) (s8 := s8) (s9 := s9) (s14 := s14) (s19 := s19) (s20 := s20) (l10 := l10) (l21 := l21) (l22 := l22) (bt := bt) hn h20 hN h8 hab hb hD hd hp hnn N 0 wt er rk none (by omega) trivial (fun j hj => absurd hj (by omega))
  have hrpf : ab_rpf rk' (ab_LM (Yv R) n N a b bt) := ab_rep_rpf _ hrep
  have hlen : (ab_LM (Yv R) n N a b bt).length = (ab_cl (fun i => ab_awM (Yv R) n i a b) (fun i => ab_ae (Yv R) i a b) bt N).length := List.length_reverse
  have hle := ab_cl_len (Wf := fun i => ab_awM (Yv R) n i a b) (Ef := fun i => ab_ae (Yv R) i a b) (lo := bt) N
  have hwe : ∀ j, j ∈ ab_LM (Yv R) n N a b bt → wt' j = ab_WM (Yv R) n a b j ∧ er' j = ab_E (Yv R) a b j := fun j hjm => hj j (ab_cl_lt _ _ (List.mem_reverse.mp hjm)).1
  have hti := m_ti_loop (w := w) (TT := TT) (R := R) (RD := RD) (SN := SN) (wt := wt') (er := er') (rk := rk') (s0 := s0) (s2 := s2) (s3 := s3) (s4 := s4) (s5 := s5) (s6 := s6) (s7 := s7) (s8 := s8) (s9 := s9) (s14 := s14) (l10 := l10) (x1 := nI a) (x2 := nI b) (bt := bt) hrpf (by omega) hwe (ab_LM (Yv R) n N a b bt).length 0 (ab_eM (Yv R) a b) (ab_VM (Yv R) n a b) 0 x' (by omega)
  rw [List.drop_zero] at hti
  refine ⟨wt', er', rk', ?_, hrpf⟩
  have hwo : ∀ (S : Nat → Int32) (L : Nat → Int64), pm_call 134 [.ref 200, .int (nI a), .int (nI b)] (pm_Mw w S L TT R RD SN wt' er' rk') = some (some (.long (ab_VM (Yv R) n a b)), pm_Mw w S L TT R RD SN wt' er' rk') := fun _ _ => q_mweightOf mwm mw212 hn h20 hd hab hb
  have heo : ∀ (S : Nat → Int32) (L : Nat → Int64), pm_call 141 [.ref 200, .int (nI a), .int (nI b)] (pm_Mw w S L TT R RD SN wt' er' rk') = some (some (.int (ab_ei (Yv R 1) (b + 1 - a) a 0)), pm_Mw w S L TT R RD SN wt' er' rk') := fun _ _ => q_mearningsOf mwm mw212 hab hb
  simp only [pe144, z144_0, z144_1, z144_2, z144_5, z144_6, pm_kv_some, pm_kw_some, pm_k_some, pm_k_void, pm_vc_some, pm_kl_some, pp6_0, pp6_2, pp6_3, pp6_4, pp6_5, pp6_6, pp6_7, pp6_8, pp6_9, pp6_10, pp6_14, pp6_18, pp6_19, pp6_20, pp6_21, pp6_22, mw200, aS0, aS2, aS3, aS4, aS5, aS6, aS7, aS8, aS9, aS14, aS18, aS19, aS20, aL10, aL21, aL22, mu200]
  have h0 : pm_ev 144 8 [some (.ref 200), some (.int (nI a)), some (.int (nI b)), some (.int bt), some (.int 0), none] [] (pm_Mw w (ab_S s0 s2 s3 s4 s5 s6 s7 s8 s9 s14 0 s19 s20) (ab_Lg l10 l21 l22) TT R RD SN wt er rk) = _ := hloop
  rw [h0]
  simp only [z144_147, z144_148, z144_149, z144_150, z144_151, z144_154, z144_157, z144_158, z144_159, z144_160, z144_161, z144_164, z144_165, z144_168, z144_169, z144_170, z144_173, z144_174, z144_175, z144_178, z144_179, pm_kv_some, pm_kw_some, pm_k_some, pm_k_void, pm_vc_some, pm_kl_some, pp6_0, pp6_2, pp6_3, pp6_4, pp6_5, pp6_6, pp6_7, pp6_8, pp6_9, pp6_10, pp6_14, pp6_18, pp6_19, pp6_20, pp6_21, pp6_22, mw200, aS0, aS2, aS3, aS4, aS5, aS6, aS7, aS8, aS9, aS14, aS18, aS19, aS20, aL10, aL21, aL22, hwo, heo, mu200]
  rw [← hlen]
  exact hti
def ab_sh_ (e v : Int64) (a b : Int32) : Int32 := (if e * 1000 * (90 * (b - a + 1).toInt64) < e * 1000 * (90 * (b - a + 1).toInt64) / v * v then e * 1000 * (90 * (b - a + 1).toInt64) / v - 1 else e * 1000 * (90 * (b - a + 1).toInt64) / v).toInt32
theorem m_share {w : pm_H} {e v : Int64} {a b : Int32} (hv : ¬ v = 0) : pm_call 147 [.long e, .long v, .int a, .int b] w = some (some (.int (ab_sh_ e v a b)), w) := by
  simp only [pe147, z147_0, z147_1, z147_4, z147_5, z147_8, z147_10, z147_12, z147_13, z147_14, z147_15, z147_16, z147_17, z147_18, z147_20, z147_22, z147_23, z147_24, z147_26, z147_28, z147_29, z147_30, z147_32, z147_33, z147_36, z147_38, z147_39, z147_40, z147_43, z147_45, z147_46, pm_kv_some, pm_kw_some, pm_k_some, pm_k_void, pm_vc_some, pm_kl_some, pm_dv_ne hv, pm_lc_gt, ab_sh_]
  split <;> rfl
def ab_dilM (Y : Nat → Nat → Int32) (n N a b : Nat) (lo : Int32) : Int32 := ab_sh_ (ab_TM Y n N a b lo).2.2.1 (ab_TM Y n N a b lo).2.2.2 (nI a) (nI b)
theorem m_diluted (hn : R 9 = nI n) (h20 : n ≤ 20) (hN : R 70 = nI N) (h8 : N ≤ 8) (hab : a ≤ b) (hb : b < 4) (hD : ∀ i, i < N → Yv R 9 i < 2147483647) (hd : ∀ k, k < n → ¬ 359 < Yv R 5 k) (hp : ∀ i q, i < N → q < 4 → 0 < ab_pr (Yv R) n i q - Yv R 11 i → ¬ (ab_pr (Yv R) n i q).toInt64 = 0) (hnn : ∀ i, i < N → ¬ ab_awM (Yv R) n i a b = 0 → 0 < ab_awM (Yv R) n i a b) (hv : ¬ (ab_TM (Yv R) n N a b bt).2.2.2 = 0) :
    ∃ (wt' er' : Nat → Int64) (rk' : Nat → Int32), pm_call 143 [.ref 200, .int (nI a), .int (nI b), .int bt] (pm_Mw w (ab_S s0 s2 s3 s4 s5 s6 s7 s8 s9 s14 s18 s19 s20) (ab_Lg l10 l21 l22) TT R RD SN wt er rk) = some (some (.int (ab_dilM (Yv R) n N a b bt)), (pm_Mw w (ab_S s0 s2 s3 s4 s5 s6 s7 s8 s9 s14 (nI (ab_LM (Yv R) n N a b bt).length) (ab_TM (Yv R) n N a b bt).1 (ab_TM (Yv R) n N a b bt).2.1) (ab_Lg l10 (ab_TM (Yv R) n N a b bt).2.2.2 (ab_TM (Yv R) n N a b bt).2.2.1) TT R RD SN wt' er' rk')) ∧ ab_rpf rk' (ab_LM (Yv R) n N a b bt) := by
  obtain ⟨wt', er', rk', hr, hrpf⟩ := m_reckons (w := w) (TT := TT) (R := R) (RD := RD) (SN := SN) (wt := wt) (er := er) (rk := rk) (s0 := s0) (s2 := s2) (s3 := s3) (s4 := s4) (s5 := s5) (s6 := s6) (s7 := s7) (s8 := s8) (s9 := s9) (s14 := s14) (s18 := s18) (s19 := s19) (s20 := s20) (l10 := l10) (l21 := l21) (l22 := l22) (bt := bt) hn h20 hN h8 hab hb hD hd hp hnn
  refine ⟨wt', er', rk', ?_, hrpf⟩
  simp only [pe143, z143_0, z143_1, z143_2, z143_3, z143_4, z143_7, z143_8, z143_11, z143_12, z143_15, z143_16, z143_17, z143_20, pm_kv_some, pm_kw_some, pm_k_some, pm_k_void, pm_vc_some, pm_kl_some, pg6_0, pg6_1, pg6_2, pg6_3, pg6_4, pg6_5, pg6_6, pg6_7, pg6_8, pg6_9, pg6_10, pg6_11, pg6_12, pg6_13, pg6_14, pg6_15, pg6_16, pg6_17, pg6_18, pg6_19, pg6_20, pg6_21, pg6_22, mw200, hr, aS0, aS2, aS3, aS4, aS5, aS6, aS7, aS8, aS9, aS14, aS18, aS19, aS20, aL10, aL21, aL22, m_share hv]
  rfl
end PMN
