/-! LINES, the model's part: grants, other lines -/
section PMG
variable {w : pm_H} {TT R RD SN : Nat → Int32} {wt er : Nat → Int64} {rk : Nat → Int32} {s0 s2 s3 s4 s5 s6 s7 s8 s9 s14 s18 s19 s20 : Int32} {l10 l21 l22 : Int64} {c : Nat → Nat} {t p j n N : Nat} {Y : Nat → Nat → Int32}
theorem ab_le_in {Y Z : Nat → Nat → Int32} (le : ab_le Y Z n N) {s d u k : Int32} : ab_le (ab_in Y N s d u k) (ab_in Z N s d u k) n (N + 1) := by
  intro i q hl
  have hl' := hl
  unfold ab_lv at hl'
  unfold ab_in ab_set
  by_cases i7 : i = 7
  · rw [if_pos i7, if_pos i7]
  · rw [if_neg i7, if_neg i7]
    by_cases i11 : i = 11
    · rw [if_pos i11, if_pos i11]
      by_cases ek : q = N
      · subst ek; rw [pk_us, pk_us]
      · rw [pk_un ek, pk_un ek]; exact le.h11 q (by omega)
    · rw [if_neg i11, if_neg i11]
      by_cases i10 : i = 10
      · rw [if_pos i10, if_pos i10]
        by_cases ek : q = N
        · subst ek; rw [pk_us, pk_us]
        · rw [pk_un ek, pk_un ek]; exact le.h10 q (by omega)
      · rw [if_neg i10, if_neg i10]
        by_cases i9 : i = 9
        · rw [if_pos i9, if_pos i9]
          by_cases ek : q = N
          · subst ek; rw [pk_us, pk_us]
          · rw [pk_un ek, pk_un ek]; exact le.h9 q (by omega)
        · rw [if_neg i9, if_neg i9]
          by_cases i8 : i = 8
          · rw [if_pos i8, if_pos i8]
            by_cases ek : q = N
            · subst ek; rw [pk_us, pk_us]
            · rw [pk_un ek, pk_un ek]; exact le.h8 q (by omega)
          · rw [if_neg i8, if_neg i8]
            exact le i q (by unfold ab_lv; omega)
theorem Rv_in_3 {N : Nat} {s d u k x : Int32} : upd (upd (upd (upd (upd (upd RD (71 + 4 * N) x) (71 + 4 * N + 1) d) (71 + 4 * N + 2) u) (71 + 4 * N) s) (71 + 4 * N + 3) k) 70 (nI (N + 1)) = Rv_in RD N s d u k := by
  funext i
  unfold Rv_in
  by_cases e70 : i = 70
  · subst e70; rw [pk_us, pk_us]
  · rw [pk_un e70, pk_un e70]
    by_cases e3 : i = 71 + 4 * N + 3
    · subst e3; rw [pk_us, pk_us]
    · rw [pk_un e3, pk_un e3]
      by_cases e0 : i = 71 + 4 * N
      · subst e0; rw [pk_us, pk_un (by omega), pk_un (by omega), pk_us]
      · rw [pk_un e0]
        by_cases e2 : i = 71 + 4 * N + 2
        · subst e2; rw [pk_us, pk_us]
        · rw [pk_un e2, pk_un e2]
          by_cases e1 : i = 71 + 4 * N + 1
          · subst e1; rw [pk_us, pk_us]
          · rw [pk_un e1, pk_un e1, pk_un e0, pk_un e0]
/-- the term, the last number of a grant -/
theorem m_term (hT : tz_T TT c t) (ht : t ≤ 740) (hp : p ≤ t) (hc : tz_cur c t p s4 s5 s6 s7 l10) (h8 : N < 8) (hN : RD 70 = nI N) {s so d u : Int32} (hso : s = 0 ↔ so = 0) :
    (∃ k s', tz_inQ c t so d u p = .inl (k, s') ∧ ∃ (RD' : Nat → Int32) (s4' s5' s6' s7' : Int32) (l10' : Int64), pm_ev 116 115 [some (.ref 200), some (.int s), some (.int (nI (71 + 4 * N)))] [] (pm_Mw w (ab_S s0 s2 (nI t) s4 s5 s6 s7 s8 s9 s14 s18 s19 s20) (ab_Lg l10 l21 l22) TT R RD SN wt er rk) = some (some (.int 0), (pm_Mw w (ab_S s0 s2 (nI t) s4' s5' s6' s7' (nI k) (nI s') s14 s18 s19 s20) (ab_Lg l10' l21 l22) TT R RD' SN wt er rk))) ∨
    (∃ k r', tz_inQ c t so d u p = .inr (so, d, u, k, r') ∧ r' ≤ t ∧ ∃ (s4' s5' s6' s7' : Int32) (l10' : Int64), pm_ev 116 115 [some (.ref 200), some (.int s), some (.int (nI (71 + 4 * N)))] [] (pm_Mw w (ab_S s0 s2 (nI t) s4 s5 s6 s7 s8 s9 s14 s18 s19 s20) (ab_Lg l10 l21 l22) TT R RD SN wt er rk) = some (some (.int 1), (pm_Mw w (ab_S s0 s2 (nI t) s4' s5' s6' s7' s8 s9 s14 s18 s19 s20) (ab_Lg l10' l21 l22) TT R (upd (upd RD (71 + 4 * N + 3) k) 70 (nI (N + 1))) SN wt er rk)) ∧ tz_cur c t r' s4' s5' s6' s7' l10') := by
  have e3 : nI (71 + 4 * N) + 3 = nI (71 + 4 * N + 3) := by rw [show (3 : Int32) = nI 3 from rfl, nI_add]
  have st : pm_ev 116 115 [some (.ref 200), some (.int s), some (.int (nI (71 + 4 * N)))] [] (pm_Mw w (ab_S s0 s2 (nI t) s4 s5 s6 s7 s8 s9 s14 s18 s19 s20) (ab_Lg l10 l21 l22) TT R RD SN wt er rk) = pm_ev 116 140 [some (.ref 200), some (.int s), some (.int (nI (71 + 4 * N)))] [.int (if so = 0 then 9999 else 99999), .int (if so = 0 then 1 else 0), .int (nI (71 + 4 * N + 3)), .ref 200] (pm_Mw w (ab_S s0 s2 (nI t) s4 s5 s6 s7 s8 s9 s14 s18 s19 s20) (ab_Lg l10 l21 l22) TT R RD SN wt er rk) := by
    simp only [z116_115, z116_116, z116_117, z116_118, z116_119, z116_120, e3]
    by_cases es : s = 0
    · rw [if_pos es, if_pos (hso.mp es), if_pos (hso.mp es)]
      simp only [z116_123, z116_124, z116_128, z116_129]
      rw [if_pos es]
      simp only [z116_132, z116_135]
    · rw [if_neg es, if_neg (fun z => es (hso.mpr z)), if_neg (fun z => es (hso.mpr z))]
      simp only [z116_127, z116_128, z116_129]
      rw [if_neg es]
      simp only [z116_138]
  rw [st]
  unfold tz_inQ
  rcases m_told (w := w) (TT := TT) (R := R) (RD := RD) (SN := SN) (wt := wt) (er := er) (rk := rk) (s0 := s0) (s2 := s2) (s8 := s8) (s9 := s9) (s14 := s14) (s18 := s18) (s19 := s19) (s20 := s20) (l21 := l21) (l22 := l22) (a := 71 + 4 * N + 3) (lo := if so = 0 then 1 else 0) (hi := if so = 0 then 9999 else 99999) hT ht hp hc (by omega) with ⟨k, s', e5, h5⟩ | ⟨k, r2, e5, hr2, k1, k2, x4, x5, x6, x7, x10, h5, h6⟩
  · left
    refine ⟨k, s', by rw [e5], RD, s4, s5, s6, s7, l10, ?_⟩
    simp only [z116_140, z116_143, pm_kv_some, pm_kw_some, pm_k_some, pm_k_void, pm_vc_some, pm_kl_some, mw200, h5]
    rw [if_pos trivial]
    simp only [z116_146, z116_147, pm_zr0]
  · right
    have hv : upd RD (71 + 4 * N + 3) k 70 = nI N := by rw [pk_un (by omega)]; exact hN
    refine ⟨k, r2, by rw [e5], hr2, x4, x5, x6, x7, x10, ?_, h6⟩
    simp only [z116_140, z116_143, pm_kv_some, pm_kw_some, pm_k_some, pm_k_void, pm_vc_some, pm_kl_some, mw200, h5]
    rw [if_neg (by decide)]
    simp only [z116_148, z116_149, z116_152, z116_154, z116_155, z116_156, z116_157, z116_158, z116_159, z116_160, pm_kv_some, pm_kw_some, pm_k_some, pm_k_void, pm_vc_some, pm_kl_some, pg6_0, pg6_1, pg6_2, pg6_3, pg6_4, pg6_5, pg6_6, pg6_7, pg6_8, pg6_9, pg6_10, pg6_11, pg6_12, pg6_13, pg6_14, pg6_15, pg6_16, pg6_17, pg6_18, pg6_19, pg6_20, pg6_21, pg6_22, mw200, mw213, aS0, aS2, aS3, aS4, aS5, aS6, aS7, aS8, aS9, aS14, aS18, aS19, aS20, aL10, aL21, aL22, pm_ia_in pm_in70, pm_is_in pm_in70, pm_cl70, hv, nI_1, mu213, pm_zr1]
theorem m_readGrant (hT : tz_T TT c t) (ht : t ≤ 740) (hp : p ≤ t) (hc : tz_cur c t p s4 s5 s6 s7 l10) (hw : ab_wf Y n N) (le : ab_le Y (Yv RD) n N) {s : Int32} {r : Nat} (hj : tz_word c t j p = .inr r) :
    (∃ k s', tz_inOQ c t Y n N s (tz_t c t p).2.1 r = .inl (k, s') ∧ ∃ (RD' : Nat → Int32) (s4' s5' s6' s7' : Int32) (l10' : Int64), pm_call 116 [.ref 200, .int s] (pm_Mw w (ab_S s0 s2 (nI t) s4 s5 s6 s7 s8 s9 s14 s18 s19 s20) (ab_Lg l10 l21 l22) TT R RD SN wt er rk) = some (some (.int 0), (pm_Mw w (ab_S s0 s2 (nI t) s4' s5' s6' s7' (nI k) (nI s') s14 s18 s19 s20) (ab_Lg l10' l21 l22) TT R RD' SN wt er rk))) ∨
    (∃ Y' n' N' r', tz_inOQ c t Y n N s (tz_t c t p).2.1 r = .inr (Y', n', N', r') ∧ r' ≤ t ∧ ∃ (RD' : Nat → Int32) (s4' s5' s6' s7' : Int32) (l10' : Int64), ab_le Y' (Yv RD') n' N' ∧ pm_call 116 [.ref 200, .int s] (pm_Mw w (ab_S s0 s2 (nI t) s4 s5 s6 s7 s8 s9 s14 s18 s19 s20) (ab_Lg l10 l21 l22) TT R RD SN wt er rk) = some (some (.int 1), (pm_Mw w (ab_S s0 s2 (nI t) s4' s5' s6' s7' s8 s9 s14 s18 s19 s20) (ab_Lg l10' l21 l22) TT R RD' SN wt er rk)) ∧ tz_cur c t r' s4' s5' s6' s7' l10') := by
  have hwR : ab_wf (Yv RD) n N := hw.congr le
  have hN : RD 70 = nI N := hwR.hN
  have h20 := hw.n20
  have h8 := hw.N8
  have hr := tz_word_le hp hj
  unfold tz_inOQ
  by_cases hroom : N < 8
  · rw [if_pos hroom]
    obtain ⟨a4, a5, a6, a7, a10, h1, h2⟩ := m_goW (w := w) (TT := TT) (R := R) (RD := RD) (SN := SN) (wt := wt) (er := er) (rk := rk) (s0 := s0) (s2 := s2) (s8 := s8) (s9 := s9) (s14 := s14) (s18 := s18) (s19 := s19) (s20 := s20) (l21 := l21) (l22 := l22) hT ht hp hc hj
    have e0 : (71 : Int32) + 4 * nI N = nI (71 + 4 * N) := by
      have := pm_iix N 0
      rw [show nI 0 = (0 : Int32) from rfl, Int32.add_zero] at this; exact this
    have e2 : nI (71 + 4 * N) + 2 = nI (71 + 4 * N + 2) := by rw [show (2 : Int32) = nI 2 from rfl, nI_add]
    have st : pm_call 116 [.ref 200, .int s] (pm_Mw w (ab_S s0 s2 (nI t) s4 s5 s6 s7 s8 s9 s14 s18 s19 s20) (ab_Lg l10 l21 l22) TT R RD SN wt er rk) = pm_ev 116 42 [some (.ref 200), some (.int s), some (.int (nI (71 + 4 * N)))] [] (pm_Mw w (ab_S s0 s2 (nI t) a4 a5 a6 a7 s8 s9 s14 s18 s19 s20) (ab_Lg a10 l21 l22) TT R (upd RD (71 + 4 * N) s) SN wt er rk) := by
      simp only [pe116, z116_0, z116_1, z116_4, z116_6, z116_7, z116_9, pm_kv_some, pm_kw_some, pm_k_some, pm_k_void, pm_vc_some, pm_kl_some, pg6_0, pg6_1, pg6_2, pg6_3, pg6_4, pg6_5, pg6_6, pg6_7, pg6_8, pg6_9, pg6_10, pg6_11, pg6_12, pg6_13, pg6_14, pg6_15, pg6_16, pg6_17, pg6_18, pg6_19, pg6_20, pg6_21, pg6_22, mw200, mw213, pm_ia_in pm_in70, pm_cl70, hN]
      rw [if_neg (show ¬ nI N = 8 from fun z => by have := (nI_eq (a := N) (b := 8) (by omega) (by omega)).mp z; omega)]
      simp only [z116_18, z116_19, z116_22, z116_24, z116_25, z116_26, z116_29, z116_31, z116_32, z116_33, z116_34, z116_35, z116_36, z116_39, z116_40, z116_41, pm_kv_some, pm_kw_some, pm_k_some, pm_k_void, pm_vc_some, pm_kl_some, pg6_0, pg6_1, pg6_2, pg6_3, pg6_4, pg6_5, pg6_6, pg6_7, pg6_8, pg6_9, pg6_10, pg6_11, pg6_12, pg6_13, pg6_14, pg6_15, pg6_16, pg6_17, pg6_18, pg6_19, pg6_20, pg6_21, pg6_22, mw200, mw213, aS0, aS2, aS3, aS4, aS5, aS6, aS7, aS8, aS9, aS14, aS18, aS19, aS20, aL10, aL21, aL22, h1, pm_ia_in pm_in70, pm_cl70, hN, e0, pm_is_in (vp_in_nI (show 71 + 4 * N < 103 by omega) (by omega)), nI_clamp (show 71 + 4 * N < 2 ^ 31 by omega), mu213]
    rw [st]
    unfold tz_igQ
    rcases m_told (w := w) (TT := TT) (R := R) (RD := upd RD (71 + 4 * N) s) (SN := SN) (wt := wt) (er := er) (rk := rk) (s0 := s0) (s2 := s2) (s8 := s8) (s9 := s9) (s14 := s14) (s18 := s18) (s19 := s19) (s20 := s20) (l21 := l21) (l22 := l22) (a := 71 + 4 * N + 1) (lo := 0) (hi := 359) hT ht hr h2 (by omega) with ⟨k, s', e3, h3⟩ | ⟨d, r1, e3, hr1, d1, d2, b4, b5, b6, b7, b10, h3, h4⟩
    · left
      refine ⟨k, s', by rw [e3], upd RD (71 + 4 * N) s, a4, a5, a6, a7, a10, ?_⟩
      simp only [z116_42, z116_43, z116_44, z116_45, z116_46, z116_47, z116_50, z116_53, pm_kv_some, pm_kw_some, pm_k_some, pm_k_void, pm_vc_some, pm_kl_some, mw200, nI_1, h3]
      rw [if_pos trivial]
      simp only [z116_70, z116_71, pm_zr0]
    · simp only [e3]
      have st2 : pm_ev 116 42 [some (.ref 200), some (.int s), some (.int (nI (71 + 4 * N)))] [] (pm_Mw w (ab_S s0 s2 (nI t) a4 a5 a6 a7 s8 s9 s14 s18 s19 s20) (ab_Lg a10 l21 l22) TT R (upd RD (71 + 4 * N) s) SN wt er rk) = pm_ev 116 56 [some (.ref 200), some (.int s), some (.int (nI (71 + 4 * N)))] [] (pm_Mw w (ab_S s0 s2 (nI t) b4 b5 b6 b7 s8 s9 s14 s18 s19 s20) (ab_Lg b10 l21 l22) TT R (upd (upd RD (71 + 4 * N) s) (71 + 4 * N + 1) d) SN wt er rk) := by
        simp only [z116_42, z116_43, z116_44, z116_45, z116_46, z116_47, z116_50, z116_53, pm_kv_some, pm_kw_some, pm_k_some, pm_k_void, pm_vc_some, pm_kl_some, mw200, nI_1, h3]
        rw [if_neg (by decide)]
      rw [st2]
      rcases m_told (w := w) (TT := TT) (R := R) (RD := upd (upd RD (71 + 4 * N) s) (71 + 4 * N + 1) d) (SN := SN) (wt := wt) (er := er) (rk := rk) (s0 := s0) (s2 := s2) (s8 := s8) (s9 := s9) (s14 := s14) (s18 := s18) (s19 := s19) (s20 := s20) (l21 := l21) (l22 := l22) (a := 71 + 4 * N + 2) (lo := 1) (hi := 9999) hT ht hr1 h4 (by omega) with ⟨k, s', e5, h5⟩ | ⟨u, r2, e5, hr2, u1, u2, x4, x5, x6, x7, x10, h5, h6⟩
      · left
        refine ⟨k, s', by rw [e5], upd (upd RD (71 + 4 * N) s) (71 + 4 * N + 1) d, b4, b5, b6, b7, b10, ?_⟩
        simp only [z116_56, z116_57, z116_58, z116_59, z116_60, z116_61, z116_64, z116_67, pm_kv_some, pm_kw_some, pm_k_some, pm_k_void, pm_vc_some, pm_kl_some, mw200, e2, h5]
        rw [if_pos trivial]
        simp only [z116_70, z116_71, pm_zr0]
      · simp only [e5]
        have hN2 : ∀ x, upd (upd (upd RD (71 + 4 * N) x) (71 + 4 * N + 1) d) (71 + 4 * N + 2) u 70 = nI N := fun x => by rw [pk_un (by omega), pk_un (by omega), pk_un (by omega)]; exact hN
        have st3 : pm_ev 116 56 [some (.ref 200), some (.int s), some (.int (nI (71 + 4 * N)))] [] (pm_Mw w (ab_S s0 s2 (nI t) b4 b5 b6 b7 s8 s9 s14 s18 s19 s20) (ab_Lg b10 l21 l22) TT R (upd (upd RD (71 + 4 * N) s) (71 + 4 * N + 1) d) SN wt er rk) = if s = 2 then pm_ev 116 77 [some (.ref 200), some (.int s), some (.int (nI (71 + 4 * N)))] [] (pm_Mw w (ab_S s0 s2 (nI t) x4 x5 x6 x7 s8 s9 s14 s18 s19 s20) (ab_Lg x10 l21 l22) TT R (upd (upd (upd RD (71 + 4 * N) s) (71 + 4 * N + 1) d) (71 + 4 * N + 2) u) SN wt er rk) else pm_ev 116 115 [some (.ref 200), some (.int s), some (.int (nI (71 + 4 * N)))] [] (pm_Mw w (ab_S s0 s2 (nI t) x4 x5 x6 x7 s8 s9 s14 s18 s19 s20) (ab_Lg x10 l21 l22) TT R (upd (upd (upd RD (71 + 4 * N) s) (71 + 4 * N + 1) d) (71 + 4 * N + 2) u) SN wt er rk) := by
          simp only [z116_56, z116_57, z116_58, z116_59, z116_60, z116_61, z116_64, z116_67, pm_kv_some, pm_kw_some, pm_k_some, pm_k_void, pm_vc_some, pm_kl_some, mw200, e2, h5]
          rw [if_neg (by decide)]
          simp only [z116_72, z116_73, z116_74]
        rw [st3]
        by_cases es : s = 2
        · rw [if_pos es, if_pos es]
          obtain ⟨f1, f2⟩ := m_isProfit (w := w) (TT := TT) (R := R) (RD := upd (upd (upd RD (71 + 4 * N) s) (71 + 4 * N + 1) d) (71 + 4 * N + 2) u) (SN := SN) (wt := wt) (er := er) (rk := rk) (s0 := s0) (s2 := s2) (s3 := nI t) (s8 := s8) (s9 := s9) (s14 := s14) (s18 := s18) (s19 := s19) (s20 := s20) (l21 := l21) (l22 := l22) hr2 h6
          obtain ⟨q1, q2⟩ := m_isPrice (w := w) (TT := TT) (R := R) (RD := upd (upd (upd RD (71 + 4 * N) s) (71 + 4 * N + 1) d) (71 + 4 * N + 2) u) (SN := SN) (wt := wt) (er := er) (rk := rk) (s0 := s0) (s2 := s2) (s3 := nI t) (s8 := s8) (s9 := s9) (s14 := s14) (s18 := s18) (s19 := s19) (s20 := s20) (l21 := l21) (l22 := l22) hr2 h6
          cases e7 : tz_word c t 4 r2 with
          | inr r3 =>
            simp only []
            have hr3 := tz_word_le hr2 e7
            have iq := (tz_word_t e7).1
            have nf : ¬ tz_isw c t r2 3 := fun z => absurd (tz_isw_2 iq z) (by decide)
            obtain ⟨y4, y5, y6, y7, y10, h7, h9⟩ := m_goW (w := w) (TT := TT) (R := R) (RD := upd (upd (upd (upd RD (71 + 4 * N) s) (71 + 4 * N + 1) d) (71 + 4 * N + 2) u) (71 + 4 * N) 3) (SN := SN) (wt := wt) (er := er) (rk := rk) (s0 := s0) (s2 := s2) (s8 := s8) (s9 := s9) (s14 := s14) (s18 := s18) (s19 := s19) (s20 := s20) (l21 := l21) (l22 := l22) hT ht hr2 h6 e7
            have st4 : pm_ev 116 77 [some (.ref 200), some (.int s), some (.int (nI (71 + 4 * N)))] [] (pm_Mw w (ab_S s0 s2 (nI t) x4 x5 x6 x7 s8 s9 s14 s18 s19 s20) (ab_Lg x10 l21 l22) TT R (upd (upd (upd RD (71 + 4 * N) s) (71 + 4 * N + 1) d) (71 + 4 * N + 2) u) SN wt er rk) = pm_ev 116 115 [some (.ref 200), some (.int s), some (.int (nI (71 + 4 * N)))] [] (pm_Mw w (ab_S s0 s2 (nI t) y4 y5 y6 y7 s8 s9 s14 s18 s19 s20) (ab_Lg y10 l21 l22) TT R (upd (upd (upd (upd RD (71 + 4 * N) s) (71 + 4 * N + 1) d) (71 + 4 * N + 2) u) (71 + 4 * N) 3) SN wt er rk) := by
              simp only [z116_77, z116_78, z116_81, pm_kv_some, pm_kw_some, pm_k_some, pm_k_void, pm_vc_some, pm_kl_some, mw200, f2 nf]
              rw [if_pos trivial]
              simp only [z116_84, z116_85, z116_88, pm_kv_some, pm_kw_some, pm_k_some, pm_k_void, pm_vc_some, pm_kl_some, mw200, q1 iq]
              rw [if_neg (by decide)]
              simp only [z116_97, z116_98, z116_101, pm_kv_some, pm_kw_some, pm_k_some, pm_k_void, pm_vc_some, pm_kl_some, mw200, q1 iq]
              rw [if_neg (by decide)]
              simp only [z116_104, z116_105, z116_108, z116_109, z116_110, z116_111, z116_112, pm_kv_some, pm_kw_some, pm_k_some, pm_k_void, pm_vc_some, pm_kl_some, pg6_0, pg6_1, pg6_2, pg6_3, pg6_4, pg6_5, pg6_6, pg6_7, pg6_8, pg6_9, pg6_10, pg6_11, pg6_12, pg6_13, pg6_14, pg6_15, pg6_16, pg6_17, pg6_18, pg6_19, pg6_20, pg6_21, pg6_22, mw200, mw213, aS0, aS2, aS3, aS4, aS5, aS6, aS7, aS8, aS9, aS14, aS18, aS19, aS20, aL10, aL21, aL22, pm_is_in (vp_in_nI (show 71 + 4 * N < 103 by omega) (by omega)), nI_clamp (show 71 + 4 * N < 2 ^ 31 by omega), mu213, h7]
            rw [st4]
            rcases m_term (w := w) (TT := TT) (R := R) (RD := upd (upd (upd (upd RD (71 + 4 * N) s) (71 + 4 * N + 1) d) (71 + 4 * N + 2) u) (71 + 4 * N) 3) (SN := SN) (wt := wt) (er := er) (rk := rk) (s0 := s0) (s2 := s2) (s8 := s8) (s9 := s9) (s14 := s14) (s18 := s18) (s19 := s19) (s20 := s20) (l21 := l21) (l22 := l22) (s := s) (so := 3) (d := d) (u := u) hT ht hr3 h9 hroom (by rw [pk_un (by omega)]; exact hN2 s) (by rw [es]; decide) with ⟨k, s', e10, RD', z4, z5, z6, z7, z10, h10⟩ | ⟨k, r', e10, hr', z4, z5, z6, z7, z10, h10, h11⟩
            · exact Or.inl ⟨k, s', by rw [e10], RD', z4, z5, z6, z7, z10, h10⟩
            · refine Or.inr ⟨_, n, N + 1, r', by rw [e10], hr', _, z4, z5, z6, z7, z10, ?_, h10, h11⟩
              rw [Rv_in_3]
              exact (ab_le_in le).trans (Yv_in h20 hroom).symm
          | inl f =>
            simp only []
            have iq := (tz_word_f (k := f.1) (s := f.2) e7).1
            cases e8 : tz_word c t 3 r2 with
            | inl f8 =>
              left
              obtain ⟨k, s'⟩ := f8
              obtain ⟨i1, i2, i3⟩ := tz_word_f e8
              refine ⟨k, s', rfl, upd (upd (upd RD (71 + 4 * N) s) (71 + 4 * N + 1) d) (71 + 4 * N + 2) u, x4, x5, x6, x7, x10, ?_⟩
              simp only [z116_77, z116_78, z116_81, pm_kv_some, pm_kw_some, pm_k_some, pm_k_void, pm_vc_some, pm_kl_some, mw200, f2 i1]
              rw [if_pos trivial]
              simp only [z116_84, z116_85, z116_88, pm_kv_some, pm_kw_some, pm_k_some, pm_k_void, pm_vc_some, pm_kl_some, mw200, q2 iq]
              rw [if_pos trivial]
              simp only [z116_91, z116_92, z116_93, z116_96, pm_kv_some, pm_kw_some, pm_k_some, pm_k_void, pm_vc_some, pm_kl_some, mw200, m_bad1 h6, pm_zr0]
              rw [i2, i3]; rfl
            | inr r3 =>
              simp only []
              have hr3 := tz_word_le hr2 e8
              obtain ⟨y4, y5, y6, y7, y10, h7, h9⟩ := m_goW (w := w) (TT := TT) (R := R) (RD := upd (upd (upd RD (71 + 4 * N) s) (71 + 4 * N + 1) d) (71 + 4 * N + 2) u) (SN := SN) (wt := wt) (er := er) (rk := rk) (s0 := s0) (s2 := s2) (s8 := s8) (s9 := s9) (s14 := s14) (s18 := s18) (s19 := s19) (s20 := s20) (l21 := l21) (l22 := l22) hT ht hr2 h6 e8
              have st4 : pm_ev 116 77 [some (.ref 200), some (.int s), some (.int (nI (71 + 4 * N)))] [] (pm_Mw w (ab_S s0 s2 (nI t) x4 x5 x6 x7 s8 s9 s14 s18 s19 s20) (ab_Lg x10 l21 l22) TT R (upd (upd (upd RD (71 + 4 * N) s) (71 + 4 * N + 1) d) (71 + 4 * N + 2) u) SN wt er rk) = pm_ev 116 115 [some (.ref 200), some (.int s), some (.int (nI (71 + 4 * N)))] [] (pm_Mw w (ab_S s0 s2 (nI t) y4 y5 y6 y7 s8 s9 s14 s18 s19 s20) (ab_Lg y10 l21 l22) TT R (upd (upd (upd RD (71 + 4 * N) s) (71 + 4 * N + 1) d) (71 + 4 * N + 2) u) SN wt er rk) := by
                simp only [z116_77, z116_78, z116_81, pm_kv_some, pm_kw_some, pm_k_some, pm_k_void, pm_vc_some, pm_kl_some, mw200, f1 (tz_word_t e8).1]
                rw [if_neg (by decide)]
                simp only [z116_97, z116_98, z116_101, pm_kv_some, pm_kw_some, pm_k_some, pm_k_void, pm_vc_some, pm_kl_some, mw200, q2 iq]
                rw [if_pos trivial]
                simp only [z116_111, z116_112, pm_kv_some, pm_kw_some, pm_k_some, pm_k_void, pm_vc_some, pm_kl_some, mw200, h7]
              rw [st4]
              rcases m_term (w := w) (TT := TT) (R := R) (RD := upd (upd (upd RD (71 + 4 * N) s) (71 + 4 * N + 1) d) (71 + 4 * N + 2) u) (SN := SN) (wt := wt) (er := er) (rk := rk) (s0 := s0) (s2 := s2) (s8 := s8) (s9 := s9) (s14 := s14) (s18 := s18) (s19 := s19) (s20 := s20) (l21 := l21) (l22 := l22) (s := s) (so := 2) (d := d) (u := u) hT ht hr3 h9 hroom (hN2 s) (by rw [es]) with ⟨k, s', e10, RD', z4, z5, z6, z7, z10, h10⟩ | ⟨k, r', e10, hr', z4, z5, z6, z7, z10, h10, h11⟩
              · exact Or.inl ⟨k, s', by rw [e10], RD', z4, z5, z6, z7, z10, h10⟩
              · refine Or.inr ⟨_, n, N + 1, r', by rw [e10], hr', _, z4, z5, z6, z7, z10, ?_, h10, h11⟩
                rw [es]
                exact (ab_le_in le).trans (Yv_in h20 hroom).symm
        · rw [if_neg es, if_neg es]
          rcases m_term (w := w) (TT := TT) (R := R) (RD := upd (upd (upd RD (71 + 4 * N) s) (71 + 4 * N + 1) d) (71 + 4 * N + 2) u) (SN := SN) (wt := wt) (er := er) (rk := rk) (s0 := s0) (s2 := s2) (s8 := s8) (s9 := s9) (s14 := s14) (s18 := s18) (s19 := s19) (s20 := s20) (l21 := l21) (l22 := l22) (s := s) (so := s) (d := d) (u := u) hT ht hr2 h6 hroom (hN2 s) Iff.rfl with ⟨k, s', e10, RD', z4, z5, z6, z7, z10, h10⟩ | ⟨k, r', e10, hr', z4, z5, z6, z7, z10, h10, h11⟩
          · exact Or.inl ⟨k, s', by rw [e10], RD', z4, z5, z6, z7, z10, h10⟩
          · refine Or.inr ⟨_, n, N + 1, r', by rw [e10], hr', _, z4, z5, z6, z7, z10, ?_, h10, h11⟩
            exact (ab_le_in le).trans (Yv_in h20 hroom).symm
  · rw [if_neg hroom]
    left
    have hN8 : N = 8 := by omega
    refine ⟨3, (tz_t c t p).2.1, rfl, RD, s4, s5, s6, s7, l10, ?_⟩
    simp only [pe116, z116_0, z116_1, z116_4, z116_6, z116_7, z116_9, pm_kv_some, pm_kw_some, pm_k_some, pm_k_void, pm_vc_some, pm_kl_some, pg6_0, pg6_1, pg6_2, pg6_3, pg6_4, pg6_5, pg6_6, pg6_7, pg6_8, pg6_9, pg6_10, pg6_11, pg6_12, pg6_13, pg6_14, pg6_15, pg6_16, pg6_17, pg6_18, pg6_19, pg6_20, pg6_21, pg6_22, mw200, mw213, pm_ia_in pm_in70, pm_cl70, hN]
    rw [if_pos (show nI N = 8 by rw [hN8]; rfl)]
    simp only [z116_12, z116_13, z116_14, z116_17, pm_kv_some, pm_kw_some, pm_k_some, pm_k_void, pm_vc_some, pm_kl_some, mw200, m_bad3 hc (tz_word_t hj).1, pm_zr0]
    rfl
theorem m_readOther (hT : tz_T TT c t) (ht : t ≤ 740) (hp : p ≤ t) (hc : tz_cur c t p s4 s5 s6 s7 l10) (hw : ab_wf Y n N) (le : ab_le Y (Yv RD) n N) :
    (∃ k s', tz_otQ c t Y n N p = .inl (k, s') ∧ ∃ (RD' : Nat → Int32) (s4' s5' s6' s7' : Int32) (l10' : Int64), pm_call 109 [.ref 200] (pm_Mw w (ab_S s0 s2 (nI t) s4 s5 s6 s7 s8 s9 s14 s18 s19 s20) (ab_Lg l10 l21 l22) TT R RD SN wt er rk) = some (some (.int 0), (pm_Mw w (ab_S s0 s2 (nI t) s4' s5' s6' s7' (nI k) (nI s') s14 s18 s19 s20) (ab_Lg l10' l21 l22) TT R RD' SN wt er rk))) ∨
    (∃ Y' n' N' r', tz_otQ c t Y n N p = .inr (Y', n', N', r') ∧ r' ≤ t ∧ ∃ (RD' : Nat → Int32) (s4' s5' s6' s7' : Int32) (l10' : Int64), ab_le Y' (Yv RD') n' N' ∧ pm_call 109 [.ref 200] (pm_Mw w (ab_S s0 s2 (nI t) s4 s5 s6 s7 s8 s9 s14 s18 s19 s20) (ab_Lg l10 l21 l22) TT R RD SN wt er rk) = some (some (.int 1), (pm_Mw w (ab_S s0 s2 (nI t) s4' s5' s6' s7' s8 s9 s14 s18 s19 s20) (ab_Lg l10' l21 l22) TT R RD' SN wt er rk)) ∧ tz_cur c t r' s4' s5' s6' s7' l10') := by
  have W := fun (j : Nat) (hj : j < 11) => m_isWord (w := w) (TT := TT) (R := R) (RD := RD) (SN := SN) (wt := wt) (er := er) (rk := rk) (s0 := s0) (s2 := s2) (s3 := nI t) (s8 := s8) (s9 := s9) (s14 := s14) (s18 := s18) (s19 := s19) (s20 := s20) (l21 := l21) (l22 := l22) (j := j) hp hj hc
  have s0' : pm_call 109 [.ref 200] (pm_Mw w (ab_S s0 s2 (nI t) s4 s5 s6 s7 s8 s9 s14 s18 s19 s20) (ab_Lg l10 l21 l22) TT R RD SN wt er rk) = pm_ev 109 0 [some (.ref 200)] [] (pm_Mw w (ab_S s0 s2 (nI t) s4 s5 s6 s7 s8 s9 s14 s18 s19 s20) (ab_Lg l10 l21 l22) TT R RD SN wt er rk) := by simp only [pe109]
  rw [s0']
  unfold tz_otQ
  cases e5 : tz_word c t 5 p with
  | inr r =>
    simp only []
    rcases m_readEvent (w := w) (TT := TT) (R := R) (RD := RD) (SN := SN) (wt := wt) (er := er) (rk := rk) (s0 := s0) (s2 := s2) (s8 := s8) (s9 := s9) (s14 := s14) (s18 := s18) (s19 := s19) (s20 := s20) (l21 := l21) (l22 := l22) (s := 0) hT ht hp hc hw le e5 with ⟨k, s', e, RD', x4, x5, x6, x7, x10, h⟩ | ⟨Y', n', N', r', e, hr, RD', x4, x5, x6, x7, x10, hle, h, hcur⟩
    · refine Or.inl ⟨k, s', e, RD', x4, x5, x6, x7, x10, ?_⟩
      simp only [z109_0, z109_1, z109_3, z109_5, z109_7, z109_9, z109_11, z109_14, z109_17, pm_kv_some, pm_kw_some, pm_k_some, pm_k_void, pm_vc_some, pm_kl_some, mw200, q_issue, (W 5 (by omega)).1 (tz_word_t e5).1]
      rw [if_neg (by decide)]
      simp only [z109_20, z109_21, z109_22, z109_25, pm_kv_some, pm_kw_some, pm_k_some, pm_k_void, pm_vc_some, pm_kl_some, mw200, h, pm_zr0]
    · refine Or.inr ⟨Y', n', N', r', e, hr, RD', x4, x5, x6, x7, x10, hle, ?_, hcur⟩
      simp only [z109_0, z109_1, z109_3, z109_5, z109_7, z109_9, z109_11, z109_14, z109_17, pm_kv_some, pm_kw_some, pm_k_some, pm_k_void, pm_vc_some, pm_kl_some, mw200, q_issue, (W 5 (by omega)).1 (tz_word_t e5).1]
      rw [if_neg (by decide)]
      simp only [z109_20, z109_21, z109_22, z109_25, pm_kv_some, pm_kw_some, pm_k_some, pm_k_void, pm_vc_some, pm_kl_some, mw200, h, pm_zr1]
  | inl f5 =>
  simp only []
  have s105 : pm_ev 109 0 [some (.ref 200)] [] (pm_Mw w (ab_S s0 s2 (nI t) s4 s5 s6 s7 s8 s9 s14 s18 s19 s20) (ab_Lg l10 l21 l22) TT R RD SN wt er rk) = pm_ev 109 26 [some (.ref 200)] [] (pm_Mw w (ab_S s0 s2 (nI t) s4 s5 s6 s7 s8 s9 s14 s18 s19 s20) (ab_Lg l10 l21 l22) TT R RD SN wt er rk) := by
    simp only [z109_0, z109_1, z109_3, z109_5, z109_7, z109_9, z109_11, z109_14, z109_17, pm_kv_some, pm_kw_some, pm_k_some, pm_k_void, pm_vc_some, pm_kl_some, mw200, q_issue, (W 5 (by omega)).2 (tz_word_f (k := f5.1) (s := f5.2) e5).1]
    rw [if_pos trivial]
  rw [s105]
  cases e6 : tz_word c t 6 p with
  | inr r =>
    simp only []
    rcases m_readEvent (w := w) (TT := TT) (R := R) (RD := RD) (SN := SN) (wt := wt) (er := er) (rk := rk) (s0 := s0) (s2 := s2) (s8 := s8) (s9 := s9) (s14 := s14) (s18 := s18) (s19 := s19) (s20 := s20) (l21 := l21) (l22 := l22) (s := 1) hT ht hp hc hw le e6 with ⟨k, s', e, RD', x4, x5, x6, x7, x10, h⟩ | ⟨Y', n', N', r', e, hr, RD', x4, x5, x6, x7, x10, hle, h, hcur⟩
    · refine Or.inl ⟨k, s', e, RD', x4, x5, x6, x7, x10, ?_⟩
      simp only [z109_26, z109_27, z109_29, z109_31, z109_33, z109_36, z109_39, pm_kv_some, pm_kw_some, pm_k_some, pm_k_void, pm_vc_some, pm_kl_some, mw200, q_buy, (W 6 (by omega)).1 (tz_word_t e6).1]
      rw [if_neg (by decide)]
      simp only [z109_42, z109_43, z109_44, z109_47, pm_kv_some, pm_kw_some, pm_k_some, pm_k_void, pm_vc_some, pm_kl_some, mw200, h, pm_zr0]
    · refine Or.inr ⟨Y', n', N', r', e, hr, RD', x4, x5, x6, x7, x10, hle, ?_, hcur⟩
      simp only [z109_26, z109_27, z109_29, z109_31, z109_33, z109_36, z109_39, pm_kv_some, pm_kw_some, pm_k_some, pm_k_void, pm_vc_some, pm_kl_some, mw200, q_buy, (W 6 (by omega)).1 (tz_word_t e6).1]
      rw [if_neg (by decide)]
      simp only [z109_42, z109_43, z109_44, z109_47, pm_kv_some, pm_kw_some, pm_k_some, pm_k_void, pm_vc_some, pm_kl_some, mw200, h, pm_zr1]
  | inl f6 =>
  simp only []
  have s106 : pm_ev 109 26 [some (.ref 200)] [] (pm_Mw w (ab_S s0 s2 (nI t) s4 s5 s6 s7 s8 s9 s14 s18 s19 s20) (ab_Lg l10 l21 l22) TT R RD SN wt er rk) = pm_ev 109 48 [some (.ref 200)] [] (pm_Mw w (ab_S s0 s2 (nI t) s4 s5 s6 s7 s8 s9 s14 s18 s19 s20) (ab_Lg l10 l21 l22) TT R RD SN wt er rk) := by
    simp only [z109_26, z109_27, z109_29, z109_31, z109_33, z109_36, z109_39, pm_kv_some, pm_kw_some, pm_k_some, pm_k_void, pm_vc_some, pm_kl_some, mw200, q_buy, (W 6 (by omega)).2 (tz_word_f (k := f6.1) (s := f6.2) e6).1]
    rw [if_pos trivial]
  rw [s106]
  cases e7 : tz_word c t 7 p with
  | inr r =>
    simp only []
    rcases m_readEvent (w := w) (TT := TT) (R := R) (RD := RD) (SN := SN) (wt := wt) (er := er) (rk := rk) (s0 := s0) (s2 := s2) (s8 := s8) (s9 := s9) (s14 := s14) (s18 := s18) (s19 := s19) (s20 := s20) (l21 := l21) (l22 := l22) (s := 2) hT ht hp hc hw le e7 with ⟨k, s', e, RD', x4, x5, x6, x7, x10, h⟩ | ⟨Y', n', N', r', e, hr, RD', x4, x5, x6, x7, x10, hle, h, hcur⟩
    · refine Or.inl ⟨k, s', e, RD', x4, x5, x6, x7, x10, ?_⟩
      simp only [z109_48, z109_49, z109_51, z109_53, z109_55, z109_57, z109_59, z109_62, z109_65, pm_kv_some, pm_kw_some, pm_k_some, pm_k_void, pm_vc_some, pm_kl_some, mw200, q_split, (W 7 (by omega)).1 (tz_word_t e7).1]
      rw [if_neg (by decide)]
      simp only [z109_68, z109_69, z109_70, z109_73, pm_kv_some, pm_kw_some, pm_k_some, pm_k_void, pm_vc_some, pm_kl_some, mw200, h, pm_zr0]
    · refine Or.inr ⟨Y', n', N', r', e, hr, RD', x4, x5, x6, x7, x10, hle, ?_, hcur⟩
      simp only [z109_48, z109_49, z109_51, z109_53, z109_55, z109_57, z109_59, z109_62, z109_65, pm_kv_some, pm_kw_some, pm_k_some, pm_k_void, pm_vc_some, pm_kl_some, mw200, q_split, (W 7 (by omega)).1 (tz_word_t e7).1]
      rw [if_neg (by decide)]
      simp only [z109_68, z109_69, z109_70, z109_73, pm_kv_some, pm_kw_some, pm_k_some, pm_k_void, pm_vc_some, pm_kl_some, mw200, h, pm_zr1]
  | inl f7 =>
  simp only []
  have s107 : pm_ev 109 48 [some (.ref 200)] [] (pm_Mw w (ab_S s0 s2 (nI t) s4 s5 s6 s7 s8 s9 s14 s18 s19 s20) (ab_Lg l10 l21 l22) TT R RD SN wt er rk) = pm_ev 109 74 [some (.ref 200)] [] (pm_Mw w (ab_S s0 s2 (nI t) s4 s5 s6 s7 s8 s9 s14 s18 s19 s20) (ab_Lg l10 l21 l22) TT R RD SN wt er rk) := by
    simp only [z109_48, z109_49, z109_51, z109_53, z109_55, z109_57, z109_59, z109_62, z109_65, pm_kv_some, pm_kw_some, pm_k_some, pm_k_void, pm_vc_some, pm_kl_some, mw200, q_split, (W 7 (by omega)).2 (tz_word_f (k := f7.1) (s := f7.2) e7).1]
    rw [if_pos trivial]
  rw [s107]
  cases e8 : tz_word c t 8 p with
  | inr r =>
    simp only []
    rcases m_readGrant (w := w) (TT := TT) (R := R) (RD := RD) (SN := SN) (wt := wt) (er := er) (rk := rk) (s0 := s0) (s2 := s2) (s8 := s8) (s9 := s9) (s14 := s14) (s18 := s18) (s19 := s19) (s20 := s20) (l21 := l21) (l22 := l22) (s := 0) hT ht hp hc hw le e8 with ⟨k, s', e, RD', x4, x5, x6, x7, x10, h⟩ | ⟨Y', n', N', r', e, hr, RD', x4, x5, x6, x7, x10, hle, h, hcur⟩
    · refine Or.inl ⟨k, s', e, RD', x4, x5, x6, x7, x10, ?_⟩
      simp only [z109_74, z109_75, z109_77, z109_79, z109_81, z109_83, z109_85, z109_87, z109_90, z109_93, pm_kv_some, pm_kw_some, pm_k_some, pm_k_void, pm_vc_some, pm_kl_some, mw200, q_option, (W 8 (by omega)).1 (tz_word_t e8).1]
      rw [if_neg (by decide)]
      simp only [z109_96, z109_97, z109_98, z109_101, pm_kv_some, pm_kw_some, pm_k_some, pm_k_void, pm_vc_some, pm_kl_some, mw200, h, pm_zr0]
    · refine Or.inr ⟨Y', n', N', r', e, hr, RD', x4, x5, x6, x7, x10, hle, ?_, hcur⟩
      simp only [z109_74, z109_75, z109_77, z109_79, z109_81, z109_83, z109_85, z109_87, z109_90, z109_93, pm_kv_some, pm_kw_some, pm_k_some, pm_k_void, pm_vc_some, pm_kl_some, mw200, q_option, (W 8 (by omega)).1 (tz_word_t e8).1]
      rw [if_neg (by decide)]
      simp only [z109_96, z109_97, z109_98, z109_101, pm_kv_some, pm_kw_some, pm_k_some, pm_k_void, pm_vc_some, pm_kl_some, mw200, h, pm_zr1]
  | inl f8 =>
  simp only []
  have s108 : pm_ev 109 74 [some (.ref 200)] [] (pm_Mw w (ab_S s0 s2 (nI t) s4 s5 s6 s7 s8 s9 s14 s18 s19 s20) (ab_Lg l10 l21 l22) TT R RD SN wt er rk) = pm_ev 109 102 [some (.ref 200)] [] (pm_Mw w (ab_S s0 s2 (nI t) s4 s5 s6 s7 s8 s9 s14 s18 s19 s20) (ab_Lg l10 l21 l22) TT R RD SN wt er rk) := by
    simp only [z109_74, z109_75, z109_77, z109_79, z109_81, z109_83, z109_85, z109_87, z109_90, z109_93, pm_kv_some, pm_kw_some, pm_k_some, pm_k_void, pm_vc_some, pm_kl_some, mw200, q_option, (W 8 (by omega)).2 (tz_word_f (k := f8.1) (s := f8.2) e8).1]
    rw [if_pos trivial]
  rw [s108]
  cases e9 : tz_word c t 9 p with
  | inr r =>
    simp only []
    rcases m_readGrant (w := w) (TT := TT) (R := R) (RD := RD) (SN := SN) (wt := wt) (er := er) (rk := rk) (s0 := s0) (s2 := s2) (s8 := s8) (s9 := s9) (s14 := s14) (s18 := s18) (s19 := s19) (s20 := s20) (l21 := l21) (l22 := l22) (s := 1) hT ht hp hc hw le e9 with ⟨k, s', e, RD', x4, x5, x6, x7, x10, h⟩ | ⟨Y', n', N', r', e, hr, RD', x4, x5, x6, x7, x10, hle, h, hcur⟩
    · refine Or.inl ⟨k, s', e, RD', x4, x5, x6, x7, x10, ?_⟩
      simp only [z109_102, z109_103, z109_105, z109_107, z109_109, z109_111, z109_114, z109_117, pm_kv_some, pm_kw_some, pm_k_some, pm_k_void, pm_vc_some, pm_kl_some, mw200, q_bond, (W 9 (by omega)).1 (tz_word_t e9).1]
      rw [if_neg (by decide)]
      simp only [z109_120, z109_121, z109_122, z109_125, pm_kv_some, pm_kw_some, pm_k_some, pm_k_void, pm_vc_some, pm_kl_some, mw200, h, pm_zr0]
    · refine Or.inr ⟨Y', n', N', r', e, hr, RD', x4, x5, x6, x7, x10, hle, ?_, hcur⟩
      simp only [z109_102, z109_103, z109_105, z109_107, z109_109, z109_111, z109_114, z109_117, pm_kv_some, pm_kw_some, pm_k_some, pm_k_void, pm_vc_some, pm_kl_some, mw200, q_bond, (W 9 (by omega)).1 (tz_word_t e9).1]
      rw [if_neg (by decide)]
      simp only [z109_120, z109_121, z109_122, z109_125, pm_kv_some, pm_kw_some, pm_k_some, pm_k_void, pm_vc_some, pm_kl_some, mw200, h, pm_zr1]
  | inl f9 =>
  simp only []
  have s109 : pm_ev 109 102 [some (.ref 200)] [] (pm_Mw w (ab_S s0 s2 (nI t) s4 s5 s6 s7 s8 s9 s14 s18 s19 s20) (ab_Lg l10 l21 l22) TT R RD SN wt er rk) = pm_ev 109 126 [some (.ref 200)] [] (pm_Mw w (ab_S s0 s2 (nI t) s4 s5 s6 s7 s8 s9 s14 s18 s19 s20) (ab_Lg l10 l21 l22) TT R RD SN wt er rk) := by
    simp only [z109_102, z109_103, z109_105, z109_107, z109_109, z109_111, z109_114, z109_117, pm_kv_some, pm_kw_some, pm_k_some, pm_k_void, pm_vc_some, pm_kl_some, mw200, q_bond, (W 9 (by omega)).2 (tz_word_f (k := f9.1) (s := f9.2) e9).1]
    rw [if_pos trivial]
  rw [s109]
  cases e10 : tz_word c t 10 p with
  | inr r =>
    simp only []
    rcases m_readGrant (w := w) (TT := TT) (R := R) (RD := RD) (SN := SN) (wt := wt) (er := er) (rk := rk) (s0 := s0) (s2 := s2) (s8 := s8) (s9 := s9) (s14 := s14) (s18 := s18) (s19 := s19) (s20 := s20) (l21 := l21) (l22 := l22) (s := 2) hT ht hp hc hw le e10 with ⟨k, s', e, RD', x4, x5, x6, x7, x10, h⟩ | ⟨Y', n', N', r', e, hr, RD', x4, x5, x6, x7, x10, hle, h, hcur⟩
    · refine Or.inl ⟨k, s', e, RD', x4, x5, x6, x7, x10, ?_⟩
      simp only [z109_126, z109_127, z109_129, z109_131, z109_133, z109_135, z109_138, z109_141, pm_kv_some, pm_kw_some, pm_k_some, pm_k_void, pm_vc_some, pm_kl_some, mw200, q_earn, (W 10 (by omega)).1 (tz_word_t e10).1]
      rw [if_neg (by decide)]
      simp only [z109_144, z109_145, z109_146, z109_149, z109_157, pm_kv_some, pm_kw_some, pm_k_some, pm_k_void, pm_vc_some, pm_kl_some, mw200, h, pm_zr0]
    · refine Or.inr ⟨Y', n', N', r', e, hr, RD', x4, x5, x6, x7, x10, hle, ?_, hcur⟩
      simp only [z109_126, z109_127, z109_129, z109_131, z109_133, z109_135, z109_138, z109_141, pm_kv_some, pm_kw_some, pm_k_some, pm_k_void, pm_vc_some, pm_kl_some, mw200, q_earn, (W 10 (by omega)).1 (tz_word_t e10).1]
      rw [if_neg (by decide)]
      simp only [z109_144, z109_145, z109_146, z109_149, z109_157, pm_kv_some, pm_kw_some, pm_k_some, pm_k_void, pm_vc_some, pm_kl_some, mw200, h, pm_zr1]
  | inl f10 =>
    obtain ⟨k10, st10⟩ := f10
    obtain ⟨j1, j2, j3⟩ := tz_word_f e10
    refine Or.inl ⟨k10, st10, rfl, RD, s4, s5, s6, s7, l10, ?_⟩
    simp only [z109_126, z109_127, z109_129, z109_131, z109_133, z109_135, z109_138, z109_141, pm_kv_some, pm_kw_some, pm_k_some, pm_k_void, pm_vc_some, pm_kl_some, mw200, q_earn, (W 10 (by omega)).2 j1]
    rw [if_pos trivial]
    simp only [z109_152, z109_153, z109_154, z109_157, pm_kv_some, pm_kw_some, pm_k_some, pm_k_void, pm_vc_some, pm_kl_some, mw200, m_bad1 hc, pm_zr0]
    rw [j2, j3]; rfl
end PMG
